import java.io.IOException;
import java.lang.reflect.Field;
import java.lang.reflect.Method;
import java.lang.reflect.Modifier;
import java.nio.charset.StandardCharsets;
import java.nio.file.Files;
import java.nio.file.Path;
import java.util.List;
import java.util.Set;
import java.util.TreeSet;
import java.util.regex.Matcher;
import java.util.regex.Pattern;

/** The public face, and what of ../shared/LANGUAGE.md can be seen by looking at the class and its file. */
public final class RulesTest {
    private static final String[] FACE = {"post 3", "tear 1", "reach 3", "blind 3", "see 1", "man 2", "hour 1",
        "watch 0", "postOf 2", "sees 2", "watched 1", "seenBy 1", "gapOf 2", "fewest 0", "fewestAgain 0",
        "watches 0", "isFull 1", "spare 0", "next 0", "greedy 0", "wouldNeed 1", "wouldTurn 1", "ranked 2",
        "describe 1", "show 0", "sign 1", "append 1", "read 0", "refusal 1", "account 1", "isWell 0", "mean 0",
        "undo 0", "save 0", "restore 0"};
    // The class answers by numbers alone, without a library but for a few functions over int.
    private static final String[] NOT_WRITTEN = {"->", "::", "import ", "package ", "try ", "catch", "throw",
        "finally", "synchronized", "assert ", "static {", "Exact", "Float.", "Double.", "System.", "String",
        "toString", "hashCode", "equals", "native ", "volatile ", "transient ", "protected ", "while (true"};
    // Of the library the class calls functions over int alone.
    private static final Pattern LIBRARY = Pattern.compile("\\b(Math|Integer|Long|Arrays|List)\\.\\w+");
    private static final Set<String> ALLOWED = Set.of("Math.max", "Math.min", "Integer.bitCount");

    public static void main(String[] args) throws IOException {
        if (args.length != 1) {
            System.out.println("RulesTest wants the path of FortressWatch.java");
            System.exit(1);
        }
        face();
        members();
        innerClasses();
        source(Files.readString(Path.of(args[0]), StandardCharsets.ISO_8859_1));
        Due.end();
    }

    private static void face() {
        Set<String> due = new TreeSet<>(List.of(FACE));
        Set<String> there = new TreeSet<>();
        for (Method method : FortressWatch.class.getDeclaredMethods()) {
            if (Modifier.isPublic(method.getModifiers())) {
                there.add(method.getName() + " " + method.getParameterCount());
                Due.due(method.getName() + " answers int", method.getReturnType().getName(), "int");
                Due.due(method.getName() + " is static", method.getModifiers() & Modifier.STATIC, 0);
                for (Class<?> type : method.getParameterTypes()) {
                    Due.due("a word of " + method.getName(), type.getName(), "int");
                }
            }
        }
        Due.due("the face", there.toString(), due.toString());
        Due.due("the class's modifiers", FortressWatch.class.getModifiers(), Modifier.PUBLIC | Modifier.FINAL);
        Due.due("constructors", FortressWatch.class.getDeclaredConstructors().length, 1);
        Due.due("public constructors without words", FortressWatch.class.getConstructors()[0].getParameterCount(), 0);
    }

    private static Set<String> publicNames() {
        Set<String> names = new TreeSet<>();
        for (String call : FACE) {
            names.add(call.split(" ")[0]);
        }
        return names;
    }

    private static void members() {
        Set<String> names = publicNames();
        for (Method method : FortressWatch.class.getDeclaredMethods()) {
            if (!Modifier.isPublic(method.getModifiers())) {
                Due.due(method.getName() + " is private", method.getModifiers() & Modifier.PRIVATE, Modifier.PRIVATE);
                Due.due(method.getName() + " bears a public name", names.contains(method.getName()) ? 1 : 0, 0);
            }
            Due.due(method.getName() + " takes at most seven", Math.max(7, method.getParameterCount()), 7);
        }
        Set<String> constants = new TreeSet<>();
        int fields = 0;
        for (Field field : FortressWatch.class.getDeclaredFields()) {
            int modifiers = field.getModifiers();
            if (Modifier.isPublic(modifiers)) {
                constants.add(field.getName());
            } else {
                Due.due(field.getName() + " is private", modifiers & Modifier.PRIVATE, Modifier.PRIVATE);
            }
            if (Modifier.isStatic(modifiers)) {
                Due.due(field.getName() + " is final", modifiers & Modifier.FINAL, Modifier.FINAL);
            } else {
                fields++;
            }
        }
        Due.due("the public fields", constants.toString(), "[BAD, NONE, NOTHING, REFUSED]");
        Due.due("some twenty fields", Math.max(20, fields), 20);
    }

    private static void innerClasses() {
        Class<?>[] inner = FortressWatch.class.getDeclaredClasses();
        Due.due("some twelve classes", Math.max(12, inner.length + 1), 12);
        for (Class<?> type : inner) {
            int modifiers = type.getModifiers();
            Due.due(type.getName() + " is static", modifiers & Modifier.STATIC, Modifier.STATIC);
            Due.due(type.getName() + " is open", modifiers & (Modifier.PUBLIC | Modifier.PROTECTED), 0);
            for (Method method : type.getDeclaredMethods()) {
                Due.due(method.getName() + " takes at most seven", Math.max(7, method.getParameterCount()), 7);
                boolean borne = publicNames().contains(method.getName());
                Due.due(type.getName() + " bears the public name " + method.getName(), borne ? 1 : 0, 0);
            }
        }
    }

    private static void source(String source) {
        for (String word : NOT_WRITTEN) {
            Due.due("the place of " + word, source.indexOf(word), -1);
        }
        Matcher call = LIBRARY.matcher(source);
        while (call.find()) {
            Due.due("the library's " + call.group(), ALLOWED.contains(call.group()) ? 1 : 0, 1);
        }
        String[] lines = source.split("\n");
        int start = 0;
        for (int n = 0; n < lines.length; n++) {
            String line = lines[n];
            Due.due("line " + (n + 1) + " has signs outside ASCII", line.matches("[ -~]*") ? 0 : 1, 0);
            // Rows are made with the object: fields are, and the eight walls of the past in their constructor.
            boolean made = line.contains("final ") || line.contains("walls[n] = new Wall();");
            Due.due("line " + (n + 1) + " makes an object outside a field", line.contains("new ") && !made ? 1 : 0, 0);
            if (line.endsWith(") {") && line.matches(" {4}(    )?[a-z].*")) {
                start = n;
            }
            if (line.matches(" {4}(    )?}")) {
                Due.due("the lines of " + lines[start].trim(), Math.max(60, n - start), 60);
                start = n;
            }
        }
    }
}
