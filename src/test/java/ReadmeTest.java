import java.io.IOException;
import java.lang.reflect.Field;
import java.lang.reflect.Method;
import java.lang.reflect.Modifier;
import java.nio.charset.StandardCharsets;
import java.nio.file.Files;
import java.nio.file.Path;
import java.util.ArrayList;
import java.util.List;
import java.util.regex.Matcher;
import java.util.regex.Pattern;

/** What README.md tells: its examples are carried out, its tables compared with the class. */
public final class ReadmeTest {
    private static final Pattern CALL = Pattern.compile("x\\.(\\w+)\\(([-\\d, ]*)\\); +// (-?\\d+)\\b.*");
    private static final Pattern TEXT = Pattern.compile("for \\(char c : \"([^\"]*)\"\\.toCharArray\\(\\)\\) x\\.append\\(c\\);");
    private static final Pattern CONSTANT = Pattern.compile("\\| (-\\d) \\| `(\\w+)` \\|.*");
    private static final Pattern COMMAND = Pattern.compile("\\| `([^`]+)` \\| `(\\w+)\\(([\\d, ]*)\\)` \\|");
    private static final Pattern REASON = Pattern.compile("\\| (\\d) \\| (.+) \\| (.+) \\|");
    private static final String NEW = "FortressWatch x = new FortressWatch();";

    public static void main(String[] args) throws IOException, ReflectiveOperationException {
        Path page = Path.of("README.md");
        if (!Files.exists(page)) {
            System.out.println("ReadmeTest wants to be run in the folder of README.md");
            System.exit(1);
        }
        List<String> lines = Files.readAllLines(page, StandardCharsets.UTF_8);
        examples(lines);
        constants(lines);
        commands(lines);
        reasons(lines);
        callsNamed(lines);
        Due.end();
    }

    private static void examples(List<String> lines) throws ReflectiveOperationException {
        FortressWatch x = null;
        int begun = 0;
        for (int n = 0; n < lines.size(); n++) {
            String line = lines.get(n);
            if (line.equals("```java")) {
                x = new FortressWatch();
                begun++;
                Due.due("line " + (n + 2), lines.get(n + 1), NEW);
            } else if (line.startsWith("```")) {
                x = null;
            } else if (x != null && !line.equals(NEW)) {
                carryOut(x, n + 1, line);
            }
        }
        Due.due("the examples", begun, 3);
    }

    private static void carryOut(FortressWatch x, int number, String line) throws ReflectiveOperationException {
        Matcher text = TEXT.matcher(line);
        Matcher call = CALL.matcher(line);
        if (text.matches()) {
            Due.append(x, text.group(1));
        } else if (call.matches()) {
            int answer = answer(x, call.group(1), numbers(call.group(2)));
            Due.due("README.md, line " + number + ", " + call.group(1), answer, Integer.parseInt(call.group(3)));
        } else {
            Due.due("README.md, line " + number, line, "a call with its answer");
        }
    }

    private static void constants(List<String> lines) throws ReflectiveOperationException {
        int told = 0;
        for (String line : lines) {
            Matcher row = CONSTANT.matcher(line);
            if (row.matches()) {
                Field field = FortressWatch.class.getField(row.group(2));
                Due.due("README.md: " + row.group(2), Integer.parseInt(row.group(1)), field.getInt(null));
                told++;
            }
        }
        Due.due("the constants told", told, 4);
    }

    /** A wall on which each command of the table can be carried out. */
    private static FortressWatch ready(String command) {
        String start = "p0<11>11;p12<1>1;p20<3>3;b2!1+1;h3";
        return Due.wall(command.equals("l2") ? start + ";m2" : start);
    }

    private static void commands(List<String> lines) throws ReflectiveOperationException {
        int told = 0;
        for (String line : lines) {
            Matcher row = COMMAND.matcher(line);
            if (row.matches()) {
                String command = row.group(1);
                FortressWatch x = ready(command);
                FortressWatch y = ready(command);
                Due.due("README.md: " + command, Due.read(x, command), 1);
                int answer = answer(y, row.group(2), numbers(row.group(3)));
                Due.due("README.md: the call for " + command + " is an error", answer < 0 ? 1 : 0, 0);
                Due.due("README.md: the wall after " + command, Edges.wall(x), Edges.wall(y));
                told++;
            }
        }
        Due.due("the commands told", told, 9);
    }

    private static void reasons(List<String> lines) throws IOException {
        String document = Files.readString(Path.of("../shared/DOC.md"), StandardCharsets.UTF_8);
        int told = 0;
        for (String line : lines) {
            Matcher row = REASON.matcher(line);
            if (row.matches()) {
                String words = row.group(1) + ", " + row.group(2) + ": " + row.group(3).split(";")[0];
                Due.due("the document tells \"" + words + "\"", document.contains(words) ? 1 : 0, 1);
                told++;
            }
        }
        Due.due("the reasons told", told, 5);
    }

    private static void callsNamed(List<String> lines) {
        String page = String.join("\n", lines);
        for (Method method : FortressWatch.class.getDeclaredMethods()) {
            if (Modifier.isPublic(method.getModifiers())) {
                boolean named = page.contains("`" + method.getName() + "` ");
                Due.due("README.md names " + method.getName(), named ? 1 : 0, 1);
            }
        }
    }

    private static List<Integer> numbers(String words) {
        List<Integer> numbers = new ArrayList<>();
        for (String word : words.split(", *")) {
            if (!word.isEmpty()) {
                numbers.add(Integer.parseInt(word));
            }
        }
        return numbers;
    }

    private static int answer(FortressWatch x, String name, List<Integer> words) throws ReflectiveOperationException {
        for (Method method : FortressWatch.class.getMethods()) {
            if (method.getName().equals(name) && method.getParameterCount() == words.size()) {
                return (Integer) method.invoke(x, words.toArray());
            }
        }
        throw new NoSuchMethodException(name);
    }
}
