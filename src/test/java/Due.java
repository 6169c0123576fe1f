/** Counts and prints the answers that are not the ones due. */
final class Due {
    private static int asked = 0;
    private static int wrong = 0;
    private static int sentences = 0;
    private static int askedBefore = 0;
    private static String sentence = "";

    private Due() {
    }

    /** What is asked from here on would break this sentence of the document, up to the next one. */
    static void sentence(int promise, String words) {
        closeSentence();
        sentences++;
        sentence = "promise " + promise + ", \"" + words + "\": ";
        askedBefore = asked;
    }

    private static void closeSentence() {
        if (!sentence.isEmpty() && asked == askedBefore) {
            wrong++;
            System.out.println(sentence + "nothing was asked");
        }
    }

    static void due(String what, int got, int want) {
        asked++;
        if (got != want) {
            wrong++;
            System.out.println(sentence + what + " answered " + got + ", due is " + want);
        }
    }

    static void due(String what, String got, String want) {
        asked++;
        if (!got.equals(want)) {
            wrong++;
            System.out.println(sentence + what + " is \"" + got + "\", due is \"" + want + "\"");
        }
    }

    /** The reason, its detail and the command of what was refused last. */
    static void refused(String what, FortressWatch x, int reason, int detail, int command) {
        due(what + ": the reason", x.refusal(0), reason);
        due(what + ": the detail", x.refusal(1), detail);
        due(what + ": the command", x.refusal(2), command);
    }

    static void append(FortressWatch x, String text) {
        for (int n = 0; n < text.length(); n++) {
            x.append(text.charAt(n));
        }
    }

    static int read(FortressWatch x, String text) {
        append(x, text);
        return x.read();
    }

    static FortressWatch wall(String text) {
        FortressWatch x = new FortressWatch();
        for (String command : text.split(";")) {
            due("the test's own " + command, read(x, command), 1);
        }
        return x;
    }

    static String line(FortressWatch x) {
        StringBuilder line = new StringBuilder();
        int code = x.sign(0);
        while (code != FortressWatch.NONE) {
            line.append((char) code);
            code = x.sign(line.length());
        }
        return line.toString();
    }

    static String shown(FortressWatch x) {
        due("show", x.show(), 24);
        return line(x);
    }

    static String described(FortressWatch x, int post) {
        int length = x.describe(post);
        String line = line(x);
        due("describe(" + post + ")", length, line.length());
        return line;
    }

    static void end() {
        closeSentence();
        System.out.println((sentences == 0 ? "" : sentences + " sentences, ") + asked + " answers, " + wrong
            + " not as due");
        if (wrong != 0 || asked == 0) {
            System.exit(1);
        }
    }
}
