import java.lang.reflect.Method;
import java.util.ArrayList;
import java.util.List;
import java.util.Random;

/** Long runs of mixed calls, each answer compared with the plain model's. The seeds are fixed. */
public final class ModelTest {
    private static final int RUNS = 1500;
    private static final int CALLS = 512;
    private static final int[] WILD = {Integer.MIN_VALUE, -100, -5, -4, -3, -2, -1, 9, 12, 13, 24, 25, 48,
        70, 127, 512, 513, 1023, 1 << 24, Integer.MAX_VALUE};
    private static final String[] CALL = {"post", "tear", "reach", "blind", "see", "man", "hour", "watch",
        "postOf", "sees", "watched", "seenBy", "gapOf", "fewest", "fewestAgain", "watches", "isFull", "spare",
        "next", "greedy", "wouldNeed", "wouldTurn", "ranked", "describe", "show", "sign", "append", "read",
        "refusal", "account", "isWell", "mean", "undo", "save", "restore"};

    private static final Method[] REAL = methodsOf(FortressWatch.class);
    private static final Method[] MODEL = methodsOf(PlainModel.class);

    private static Random random;
    private static FortressWatch real;
    private static PlainModel model;
    private static int calls;
    private static List<String> story;
    private static int wrong;

    public static void main(String[] args) {
        for (int run = 0; run < RUNS && wrong == 0; run++) {
            random = new Random(9001 + run);
            real = new FortressWatch();
            model = new PlainModel();
            story = new ArrayList<>();
            calls = 0;
            int most = run % 3 == 0 ? 4 : 11;
            while (calls < CALLS && wrong == 0) {
                step(most);
            }
        }
        System.out.println(wrong == 0 ? RUNS + " runs agree with the model" : "the model disagrees");
        if (wrong != 0) {
            System.exit(1);
        }
    }

    private static void step(int mostReach) {
        int die = random.nextInt(100);
        if (die < 10) {
            call(0, within(24), within(mostReach + 1), within(mostReach + 1));
        } else if (die < 12) {
            call(random.nextInt(3) == 0 ? 34 : 33, 0, 0, 0);
        } else if (die < 14) {
            writeText(mostReach);
        } else if (die < 19) {
            call(5, within(9), within(2), 0);
        } else if (die < 23) {
            call(3, within(9), within(24), 1 + within(8));
        } else if (die < 26) {
            call(2, within(9), within(mostReach + 1), within(mostReach + 1));
        } else if (die < 28) {
            call(32, 0, 0, 0);
        } else if (die < 30) {
            call(29, random.nextInt(13), 0, 0);
        } else if (die < 33) {
            call(28, random.nextInt(3), 0, 0);
        } else {
            any();
        }
    }

    private static void any() {
        int id = random.nextInt(CALL.length);
        if (id == 1 && random.nextInt(4) != 0) {
            return;
        }
        int[] bounds = {24, 9, 9, 9, 9, 9, 12, 1, 9, 9, 24, 24, 4, 1, 1, 1, 512, 1, 1, 1, 12, 24, 3, 9, 1, 24,
            127, 1, 3, 13, 1, 1, 1, 1, 1};
        int[] seconds = {12, 1, 12, 24, 1, 2, 1, 1, 9, 24, 1, 1, 3, 1, 1, 1, 1, 1, 1, 1, 1, 1, 9};
        call(id, within(bounds[id]), within(id < seconds.length ? seconds[id] : 1), within(12));
    }

    /** Mostly a number in the range, now and then one at its edge or far outside. */
    private static int within(int bound) {
        int die = random.nextInt(40);
        if (die == 0) {
            return WILD[random.nextInt(WILD.length)];
        }
        if (die == 1) {
            return bound;
        }
        return random.nextInt(bound);
    }

    private static void writeText(int mostReach) {
        StringBuilder text = new StringBuilder();
        int commands = 1 + random.nextInt(random.nextInt(3) == 0 ? 12 : 4);
        for (int n = 0; n < commands; n++) {
            text.append(n == 0 ? "" : ";").append(command(mostReach));
        }
        if (random.nextInt(3) == 0 && text.length() > 0) {
            spoil(text);
        }
        for (int n = 0; n < text.length(); n++) {
            call(26, text.charAt(n), 0, 0);
        }
        call(27, 0, 0, 0);
        call(28, 2, 0, 0);
    }

    private static String command(int mostReach) {
        int post = random.nextInt(random.nextInt(3) == 0 ? 10 : 4);
        String stone = number(random.nextInt(20) == 0 ? 30 : 24);
        String reaches = "<" + number(mostReach + 1) + ">" + number(random.nextInt(30) == 0 ? 14 : mostReach + 1);
        switch (random.nextInt(11)) {
            case 0: return "-" + post;
            case 1: return "r" + post + reaches;
            case 2: return "b" + post + "!" + stone + "+" + random.nextInt(10);
            case 3: return "n" + post;
            case 4: return "m" + post;
            case 5: return "l" + post;
            case 6: return "h" + number(12);
            case 7: return "w";
            default: return "p" + stone + reaches;
        }
    }

    private static String number(int bound) {
        int number = random.nextInt(bound);
        return number < 10 && random.nextInt(4) == 0 ? "0" + number : "" + number;
    }

    private static void spoil(StringBuilder text) {
        int at = random.nextInt(text.length());
        String signs = ";p-rbnmlhw<>!+0123456789x *";
        char sign = signs.charAt(random.nextInt(signs.length()));
        switch (random.nextInt(3)) {
            case 0: text.setCharAt(at, sign); break;
            case 1: text.insert(at, sign); break;
            default: text.setLength(at); break;
        }
    }

    private static void call(int id, int a, int b, int c) {
        if (calls >= CALLS || wrong > 0) {
            return;
        }
        calls++;
        String call = CALL[id] + "(" + a + ", " + b + ", " + c + ")";
        try {
            int got = answer(real, REAL[id], a, b, c);
            int want = answer(model, MODEL[id], a, b, c);
            story.add(call + " " + got);
            if (got != want) {
                fail("the last call answered " + got + ", the model " + want);
            }
        } catch (ReflectiveOperationException e) {
            fail(call + " threw " + e.getCause());
        }
    }

    private static void fail(String why) {
        wrong++;
        story.forEach(System.out::println);
        System.out.println(why);
    }

    private static int answer(Object object, Method method, int... words) throws ReflectiveOperationException {
        Object[] taken = new Object[method.getParameterCount()];
        for (int n = 0; n < taken.length; n++) {
            taken[n] = words[n];
        }
        return (Integer) method.invoke(object, taken);
    }

    /** The methods of a class in the order of CALL. */
    private static Method[] methodsOf(Class<?> type) {
        Method[] methods = new Method[CALL.length];
        for (Method method : type.getDeclaredMethods()) {
            int id = List.of(CALL).indexOf(method.getName());
            if (id >= 0) {
                methods[id] = method;
            }
        }
        return methods;
    }
}
