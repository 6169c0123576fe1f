import java.util.ArrayList;
import java.util.List;
import java.util.Random;

/** Long runs of mixed calls, each answer compared with the plain model's. The seeds are fixed. */
public final class ModelTest {
    private static final int RUNS = 1500;
    private static final int CALLS = 512;
    private static final int[] WILD = {Integer.MIN_VALUE, -100, -5, -4, -3, -2, -1, 9, 12, 13, 24, 25, 48,
        70, 127, 512, 513, 1023, 1 << 24, Integer.MAX_VALUE};
    private static final String[] CALL = {"post", "tear", "reach", "blind", "see", "man", "hour", "watch",
        "postOf", "sees", "watched", "seenBy", "gapOf", "fewest", "fewestAgain", "watches", "isFull", "spare",
        "next", "greedy", "wouldNeed", "wouldTurn", "ranked", "describe", "show", "sign", "append", "read",
        "refusal", "account", "isWell", "mean", "undo", "save", "restore"};

    private static Random random;
    private static FortressWatch real;
    private static PlainModel model;
    private static int calls;
    private static List<String> story;
    private static int wrong;

    public static void main(String[] args) {
        for (int run = 0; run < RUNS && wrong == 0; run++) {
            random = new Random(9001 + run);
            real = new FortressWatch();
            model = new PlainModel();
            story = new ArrayList<>();
            calls = 0;
            int most = run % 3 == 0 ? 4 : 11;
            while (calls < CALLS && wrong == 0) {
                step(most);
            }
        }
        System.out.println(wrong == 0 ? RUNS + " runs agree with the model" : "the model disagrees");
        if (wrong != 0) {
            System.exit(1);
        }
    }

    private static void step(int mostReach) {
        int die = random.nextInt(100);
        if (die < 10) {
            call(0, within(24), within(mostReach + 1), within(mostReach + 1));
        } else if (die < 12) {
            call(random.nextInt(3) == 0 ? 34 : 33, 0, 0, 0);
        } else if (die < 14) {
            writeText(mostReach);
        } else if (die < 19) {
            call(5, within(9), within(2), 0);
        } else if (die < 23) {
            call(3, within(9), within(24), 1 + within(8));
        } else if (die < 26) {
            call(2, within(9), within(mostReach + 1), within(mostReach + 1));
        } else if (die < 28) {
            call(32, 0, 0, 0);
        } else if (die < 30) {
            call(29, random.nextInt(13), 0, 0);
        } else if (die < 33) {
            call(28, random.nextInt(3), 0, 0);
        } else {
            any();
        }
    }

    private static void any() {
        int id = random.nextInt(CALL.length);
        if (id == 1 && random.nextInt(4) != 0) {
            return;
        }
        int[] bounds = {24, 9, 9, 9, 9, 9, 12, 1, 9, 9, 24, 24, 4, 1, 1, 1, 512, 1, 1, 1, 12, 24, 3, 9, 1, 24,
            127, 1, 3, 13, 1, 1, 1, 1, 1};
        int[] seconds = {12, 1, 12, 24, 1, 2, 1, 1, 9, 24, 1, 1, 3, 1, 1, 1, 1, 1, 1, 1, 1, 1, 9};
        call(id, within(bounds[id]), within(id < seconds.length ? seconds[id] : 1), within(12));
    }

    /** Mostly a number in the range, now and then one at its edge or far outside. */
    private static int within(int bound) {
        int die = random.nextInt(40);
        if (die == 0) {
            return WILD[random.nextInt(WILD.length)];
        }
        if (die == 1) {
            return bound;
        }
        return random.nextInt(bound);
    }

    private static void writeText(int mostReach) {
        StringBuilder text = new StringBuilder();
        int commands = 1 + random.nextInt(random.nextInt(3) == 0 ? 12 : 4);
        for (int n = 0; n < commands; n++) {
            text.append(n == 0 ? "" : ";").append(command(mostReach));
        }
        if (random.nextInt(3) == 0 && text.length() > 0) {
            spoil(text);
        }
        for (int n = 0; n < text.length(); n++) {
            call(26, text.charAt(n), 0, 0);
        }
        call(27, 0, 0, 0);
        call(28, 2, 0, 0);
    }

    private static String command(int mostReach) {
        int post = random.nextInt(random.nextInt(3) == 0 ? 10 : 4);
        String stone = number(random.nextInt(20) == 0 ? 30 : 24);
        String reaches = "<" + number(mostReach + 1) + ">" + number(random.nextInt(30) == 0 ? 14 : mostReach + 1);
        switch (random.nextInt(11)) {
            case 0: return "-" + post;
            case 1: return "r" + post + reaches;
            case 2: return "b" + post + "!" + stone + "+" + random.nextInt(10);
            case 3: return "n" + post;
            case 4: return "m" + post;
            case 5: return "l" + post;
            case 6: return "h" + number(12);
            case 7: return "w";
            default: return "p" + stone + reaches;
        }
    }

    private static String number(int bound) {
        int number = random.nextInt(bound);
        return number < 10 && random.nextInt(4) == 0 ? "0" + number : "" + number;
    }

    private static void spoil(StringBuilder text) {
        int at = random.nextInt(text.length());
        String signs = ";p-rbnmlhw<>!+0123456789x *";
        char sign = signs.charAt(random.nextInt(signs.length()));
        switch (random.nextInt(3)) {
            case 0: text.setCharAt(at, sign); break;
            case 1: text.insert(at, sign); break;
            default: text.setLength(at); break;
        }
    }

    private static void call(int id, int a, int b, int c) {
        if (calls >= CALLS || wrong > 0) {
            return;
        }
        calls++;
        int got = ofReal(id, a, b, c);
        int want = ofModel(id, a, b, c);
        story.add(CALL[id] + "(" + a + ", " + b + ", " + c + ") " + got);
        if (got != want) {
            wrong++;
            story.forEach(System.out::println);
            System.out.println("the last call answered " + got + ", the model " + want);
        }
    }

    private static int ofReal(int id, int a, int b, int c) {
        FortressWatch x = real;
        switch (id) {
            case 0: return x.post(a, b, c);
            case 1: return x.tear(a);
            case 2: return x.reach(a, b, c);
            case 3: return x.blind(a, b, c);
            case 4: return x.see(a);
            case 5: return x.man(a, b);
            case 6: return x.hour(a);
            case 7: return x.watch();
            case 8: return x.postOf(a, b);
            case 9: return x.sees(a, b);
            case 10: return x.watched(a);
            case 11: return x.seenBy(a);
            case 12: return x.gapOf(a, b);
            case 13: return x.fewest();
            case 14: return x.fewestAgain();
            case 15: return x.watches();
            case 16: return x.isFull(a);
            case 17: return x.spare();
            case 18: return x.next();
            case 19: return x.greedy();
            case 20: return x.wouldNeed(a);
            case 21: return x.wouldTurn(a);
            case 22: return x.ranked(a, b);
            case 23: return x.describe(a);
            case 24: return x.show();
            case 25: return x.sign(a);
            case 26: return x.append(a);
            case 27: return x.read();
            case 28: return x.refusal(a);
            case 29: return x.account(a);
            case 30: return x.isWell();
            case 31: return x.mean();
            case 32: return x.undo();
            case 33: return x.save();
            default: return x.restore();
        }
    }

    private static int ofModel(int id, int a, int b, int c) {
        PlainModel x = model;
        switch (id) {
            case 0: return x.post(a, b, c);
            case 1: return x.tear(a);
            case 2: return x.reach(a, b, c);
            case 3: return x.blind(a, b, c);
            case 4: return x.see(a);
            case 5: return x.man(a, b);
            case 6: return x.hour(a);
            case 7: return x.watch();
            case 8: return x.postOf(a, b);
            case 9: return x.sees(a, b);
            case 10: return x.watched(a);
            case 11: return x.seenBy(a);
            case 12: return x.gapOf(a, b);
            case 13: return x.fewest();
            case 14: return x.fewestAgain();
            case 15: return x.watches();
            case 16: return x.isFull(a);
            case 17: return x.spare();
            case 18: return x.next();
            case 19: return x.greedy();
            case 20: return x.wouldNeed(a);
            case 21: return x.wouldTurn(a);
            case 22: return x.ranked(a, b);
            case 23: return x.describe(a);
            case 24: return x.show();
            case 25: return x.sign(a);
            case 26: return x.append(a);
            case 27: return x.read();
            case 28: return x.refusal(a);
            case 29: return x.account(a);
            case 30: return x.isWell();
            case 31: return x.mean();
            case 32: return x.undo();
            case 33: return x.save();
            default: return x.restore();
        }
    }
}
