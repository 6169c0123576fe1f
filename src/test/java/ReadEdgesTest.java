/** Promise 29, sentence by sentence, at the edges that the document names. */
public final class ReadEdgesTest {
    private static final int BAD = FortressWatch.BAD;
    private static final int REFUSED = FortressWatch.REFUSED;
    private static final int NOTHING = FortressWatch.NOTHING;

    private static final String FIRSTS = "p-rbnmlhw";
    private static final String DIGITS = "0123456789";
    /** Texts that are not at their end, and what can stand behind each. */
    private static final String[][] OPEN = {
        {"", FIRSTS},
        {"p", DIGITS}, {"p0", DIGITS + "<"}, {"p23", "<"}, {"p5<", DIGITS}, {"p5<0", DIGITS + ">"}, {"p5<11", ">"},
        {"p05<09", ">"}, {"p5<1>", DIGITS}, {"p99<99>", DIGITS},
        {"-", DIGITS},
        {"r", DIGITS}, {"r0", "<"}, {"r9<", DIGITS}, {"r0<0", DIGITS + ">"}, {"r0<11", ">"}, {"r0<1>", DIGITS},
        {"b", DIGITS}, {"b0", "!"}, {"b9!", DIGITS}, {"b0!0", DIGITS + "+"}, {"b0!23", "+"}, {"b0!9+", DIGITS},
        {"n", DIGITS}, {"m", DIGITS}, {"l", DIGITS}, {"h", DIGITS}};
    /** Texts that may end, and what can stand behind each. */
    private static final String[][] CLOSED = {
        {"p5<1>0", DIGITS + ";"}, {"p5<1>9", DIGITS + ";"}, {"p5<1>11", ";"}, {"p05<01>00", ";"},
        {"-0", ";"}, {"-9", ";"}, {"r0<1>0", DIGITS + ";"}, {"r0<1>11", ";"}, {"b0!9+0", ";"}, {"b0!9+9", ";"},
        {"n0", ";"}, {"n9", ";"}, {"m0", ";"}, {"m9", ";"}, {"l0", ";"}, {"l9", ";"},
        {"h0", DIGITS + ";"}, {"h9", DIGITS + ";"}, {"h11", ";"}, {"h99", ";"}, {"w", ";"}};

    public static void main(String[] args) {
        commandsOneOrMore();
        commandsAsTheCalls();
        oneOrTwoDigits();
        faultAtTheFirstThatCannotContinue();
        faultBehindACommand();
        endsTooEarly();
        empty();
        faultOfSeventy();
        faultBeforeErrors();
        refusedForEachReason();
        badForAnotherError();
        firstFailureDecides();
        allOrNone();
        eachUponThoseBefore();
        eachKindUponThoseBefore();
        ninePostsInAText();
        oneChange();
        emptiesTheText();
        lineStays();
        Due.end();
    }

    private static void commandsOneOrMore() {
        Due.sentence(29, "Returns the number of commands");
        FortressWatch x = Due.wall("p0<11>11;p12<0>0");
        Due.due("one", Due.read(x, "w"), 1);
        Due.due("two", Due.read(x, "w;h1"), 2);
        Due.due("three", Due.read(x, "l0;m0;h0"), 3);
        Due.due("thirty-five", Due.read(x, "w;".repeat(34) + "w"), 35);
        Due.due("nine", Due.read(x, "-0;-0;p0<0>0;m0;b0!0+1;n0;l0;r0<1>0;h1"), 9);
    }

    private static void commandsAsTheCalls() {
        Due.sentence(29, "Reads the text as commands and carries them out");
        String start = "p0<11>11;p12<1>2;p13<2>1;b1!13+1;m2;h3";
        String[] commands = {"p23<10>9", "-1", "r1<11>0", "b1!23+8", "b2!0+1", "n1", "m1", "l2", "h11", "h0", "w"};
        Edges.Call[] calls = {x -> x.post(23, 10, 9), x -> x.tear(1), x -> x.reach(1, 11, 0), x -> x.blind(1, 23, 8),
            x -> x.blind(2, 0, 1), x -> x.see(1), x -> x.man(1, 1), x -> x.man(2, 0), x -> x.hour(11),
            x -> x.hour(0), FortressWatch::watch};
        for (int n = 0; n < commands.length; n++) {
            FortressWatch x = Due.wall(start);
            FortressWatch y = Due.wall(start);
            Due.due("the call like " + commands[n] + " is an error", calls[n].on(y) < 0 ? 1 : 0, 0);
            Due.due(commands[n], Due.read(x, commands[n]), 1);
            Due.due("the wall after " + commands[n], Edges.wall(x), Edges.wall(y));
        }
    }

    private static void oneOrTwoDigits() {
        Due.sentence(29, "Stones, hours and reaches have one or two digits");
        FortressWatch x = new FortressWatch();
        Due.due("one digit each", Due.read(x, "p9<8>7;h9"), 2);
        Due.due("two digits each", Due.read(x, "p10<11>10;h10"), 2);
        Due.due("two digits with a 0 ahead", Due.read(x, "p08<07>06;h09"), 2);
        Due.due("0 and 00", Due.read(x, "p00<0>00;h00"), 2);
        Due.due("other reaches", Due.read(x, "r0<11>01;r1<2>10"), 2);
        Due.due("blind angles", Due.read(x, "b0!23+8;b1!05+1;b2!0+2"), 3);
        Due.due("the first", Due.described(x, 0), "0@9<11>1!23+8");
        Due.due("the second", Due.described(x, 1), "1@10<2>10!5+1");
        Due.due("the third", Due.described(x, 2), "2@8<7>6!0+2");
        Due.due("the fourth", Due.described(x, 3), "3@0<0>0");
        Due.due("the hour", x.account(7), 0);
    }

    /** What a new object answers to a text. */
    private static int answer(String text) {
        return Due.read(new FortressWatch(), text);
    }

    private static void behind(String ahead, String text, String allowed, boolean mayEnd) {
        String whole = ahead + text;
        int end = answer(whole);
        Due.due("\"" + whole + "\" may end here", end > -100 ? 1 : 0, mayEnd ? 1 : 0);
        if (!mayEnd) {
            Due.due("\"" + whole + "\"", end, -100 - whole.length());
        }
        for (char code = 32; code <= 126; code++) {
            int answer = answer(whole + code);
            if (allowed.indexOf(code) < 0) {
                Due.due("\"" + whole + code + "\"", answer, -100 - whole.length());
            } else {
                boolean fits = answer > -100 || answer == -101 - whole.length();
                Due.due("\"" + whole + code + "\" can continue", fits ? 1 : 0, 1);
            }
        }
    }

    private static void faultAtTheFirstThatCannotContinue() {
        Due.sentence(29, "The fault position of a text is the index of its first character with which no "
            + "such text can continue");
        for (String[] row : OPEN) {
            behind("", row[0], row[1], false);
        }
        for (String[] row : CLOSED) {
            behind("", row[0], row[1], true);
        }
        Due.due("the first of two", answer("p1<?>?"), -103);
        Due.due("a good one behind it", answer("x;w"), -100);
    }

    private static void faultBehindACommand() {
        Due.sentence(29, "a sequence of one or more commands with \";\" between them");
        for (String ahead : new String[] {"w;", "p1<11>11;", "h5;m0;-9;b0!1+1;"}) {
            for (String[] row : OPEN) {
                behind(ahead, row[0], row[1], false);
            }
            for (String[] row : CLOSED) {
                behind(ahead, row[0], row[1], true);
            }
        }
    }

    private static void endsTooEarly() {
        Due.sentence(29, "or its length if it ends too early");
        String whole = "p12<10>11;-0;r0<11>10;b0!23+8;n0;m0;l0;h11;w";
        String ends = "";
        for (int length = 0; length <= whole.length(); length++) {
            int answer = answer(whole.substring(0, length));
            ends += answer == -100 - length ? 'x' : '.';
        }
        // A number of one digit is enough where two may stand.
        Due.due("the beginnings that end too early", ends, "xxxxxxxx..xx.xxxxxxx..xxxxxxx.xx.xx.xx.xx..x.");
    }

    private static void empty() {
        Due.sentence(29, "one or more commands: not none");
        FortressWatch x = new FortressWatch();
        Due.due("read() of a new object", x.read(), -100);
        Due.due("read() again", x.read(), -100);
        Due.due("a command", Due.read(x, "h1"), 1);
        Due.due("read() behind it", x.read(), -100);
        Due.due("no change", x.account(12), 1);
    }

    private static void faultOfSeventy() {
        Due.sentence(29, "-100 minus the fault position if the text is wrong: up to 70 characters");
        Due.due("too early behind 70", answer("w;".repeat(35)), -170);
        Due.due("too early behind 69", answer("w;".repeat(34) + "h"), -169);
        Due.due("the seventieth is wrong", answer("w;".repeat(34) + "ww"), -169);
        Due.due("the first of seventy is wrong", answer("?" + "w;".repeat(34) + "w"), -100);
        FortressWatch x = Due.wall("p0<11>11;p12<0>0");
        Due.due("seventy without fault", Due.read(x, "w;".repeat(33) + "w;h1"), 35);
    }

    private static void faultBeforeErrors() {
        Due.sentence(29, "If several errors apply, the one that is listed first is returned");
        FortressWatch x = Due.wall("p0<11>11");
        Due.due("a fault behind a refused command", Due.read(x, "h0;?"), -103);
        Due.due("a fault behind a bad one", Due.read(x, "h12;m"), -105);
        Due.due("a fault behind a good one", Due.read(x, "h1;m0;"), -106);
        Due.refused("nothing was refused", x, NOTHING, NOTHING, NOTHING);
        Due.due("no change", x.account(12), 1);
        Due.due("the wall", Edges.wall(x), "0 11 11 -4 0 0 / 0 1 0 0 ");
    }

    private static void refusedForEachReason() {
        Due.sentence(29, "REFUSED if a command is refused");
        String[] commands = {"p20<0>0", "p8<0>0", "r0<0>0", "b1!1+1", "m1", "l0", "h0", "w", "n0"};
        for (String command : commands) {
            FortressWatch x = Due.wall(Edges.NINE + ";b1!1+1;m1");
            Due.due(command, Due.read(x, command), REFUSED);
            Due.due(command + " behind another one", Due.read(x, "b0!5+5;" + command.replace("n0", "n2")), REFUSED);
        }
    }

    private static void badForAnotherError() {
        Due.sentence(29, "BAD if a call for a command returns another error code");
        String[] commands = {"p24<0>0", "p99<1>1", "p0<12>0", "p0<0>12", "p24<12>12", "-2", "-9", "r2<0>0", "r0<12>0",
            "r0<0>99", "b2!0+1", "b0!24+1", "b0!0+0", "b0!0+9", "n2", "m2", "m9", "l2", "h12", "h99"};
        FortressWatch x = Due.wall("p0<11>11;p12<0>0");
        for (String command : commands) {
            Due.due(command, Due.read(x, command), BAD);
        }
        Due.due("behind a good one", Due.read(x, "h1;h12"), BAD);
        Due.refused("nothing was refused", x, NOTHING, NOTHING, NOTHING);
        Due.due("a command on the last post", Due.read(x, "m1"), 1);
        Due.due("the wall", Edges.wall(x), "0 11 11 -4 0 0 / 12 0 0 -4 0 1 / 0 2 0 0 ");
    }

    private static void firstFailureDecides() {
        Due.sentence(29, "carries them out, all or none: what comes behind a command that fails is not tried");
        FortressWatch x = Due.wall("p0<11>11;p12<0>0");
        Due.due("refused, then bad", Due.read(x, "h0;h12"), REFUSED);
        Due.refused("refused, then bad", x, 3, 0, 0);
        Due.due("bad, then refused", Due.read(x, "m0;h12;h0;n1"), BAD);
        Due.refused("bad, then refused", x, 3, 0, 0);
        Due.due("refused, then refused", Due.read(x, "h4;n1;n0"), REFUSED);
        Due.refused("refused, then refused", x, 5, 1, 1);
    }

    private static void allOrNone() {
        Due.sentence(29, "all or none");
        String[] good = {"p5<1>1", "-0", "r1<2>2", "b0!1+1", "n1", "m0", "l1", "h9", "w", "-0;-0", "p5<1>1;w;h4;-2;m2"};
        String[] failing = {"h3", "h12", "?", "p24<0>0", "h3;h4"};
        String start = "p0<11>11;p12<1>1;b1!13+1;m1;h3";
        for (String commands : good) {
            for (String fails : failing) {
                FortressWatch x = Due.wall(start);
                String before = Edges.wall(x);
                String text = commands + (commands.contains("h") ? ";h3" : "") + ";" + fails;
                int answer = Due.read(x, text);
                Due.due("\"" + text + "\" is an error", answer < 0 ? 1 : 0, 1);
                Due.due("the wall after \"" + text + "\"", Edges.wall(x), before);
                Due.due("the changes after \"" + text + "\"", x.account(12), 5);
                Due.due("undo() after \"" + text + "\"", x.undo(), 4);
                Due.due("the hour before", x.account(7), 0);
            }
        }
    }

    private static void eachUponThoseBefore() {
        Due.sentence(29, "carries them out: each upon what those before it left");
        FortressWatch x = new FortressWatch();
        Due.due("posts, torn again", Due.read(x, "p5<0>0;m0;-0;p5<1>1;m0;l0;b0!5+1;n0"), 8);
        Due.due("the post that is left", Due.described(x, 0), "0@5<1>1");
        Due.due("nine, and none of them", Due.read(x, "-0;p1<0>0;p2<0>0;p3<0>0;p4<0>0;-3;-2;-1;-0"), 9);
        Due.due("the posts", x.account(0), 0);
        Due.due("the posts built so far", x.account(8), 6);
        Due.due("the posts torn down so far", x.account(9), 6);
        Due.due("a post on a stone that a command left", Due.read(x, "p5<0>0;-0;p5<0>0;p5<0>0"), REFUSED);
        Due.refused("a post on a stone that a command left", x, 2, 0, 3);
        Due.due("a watch by the posts of the text", Due.read(x, "p0<11>11;p12<0>0;w;h1;w"), 5);
        Due.due("who is manned", Edges.manned(x), 3);
        Due.due("how often a watch was manned", x.account(10), 2);
        Due.due("the hour of the text decides", Due.read(x, "h6;w"), REFUSED);
        Due.refused("the hour of the text decides", x, 4, 2, 1);
    }

    private static void eachKindUponThoseBefore() {
        Due.sentence(29, "carries them out: each kind of command upon what those before it left");
        String[] done = {"-0;p5<1>1", "p1<1>1;r2<2>2", "r0<2>2;r0<1>1", "b1!1+1;b1!9+1", "n1;b1!9+1", "b0!1+1;n0",
            "p1<1>1;b2!9+1", "p1<1>1;m2", "l1;m1", "m0;l0", "h4;h3", "p1<1>1;-2"};
        String[] refused = {"p1<1>1;p1<2>2", "r0<2>2;r0<2>2", "b0!1+1;b0!1+1", "n1;n1", "m0;m0", "l1;l1", "h4;h4",
            "-1;n0", "n1;w"};
        String[] bad = {"-1;r1<1>1", "-1;b1!1+1", "-1;n1", "-1;m1", "-0;l1", "-0;-1"};
        for (String text : done) {
            Due.due(text, Due.read(Due.wall("p5<1>1;p9<2>2;b1!9+1;m1;h3"), text), 2);
        }
        for (String text : refused) {
            FortressWatch x = Due.wall("p5<1>1;p9<2>2;b1!9+1;m1;h3");
            Due.due(text, Due.read(x, text), REFUSED);
            Due.due("the command that is refused of " + text, x.refusal(2), 1);
        }
        for (String text : bad) {
            Due.due(text, Due.read(Due.wall("p5<1>1;p9<2>2;b1!9+1;m1;h3"), text), BAD);
        }
        Due.due("a watch by posts of the text", Due.read(Due.wall("p5<1>1;h3"), "p0<11>11;p12<0>0;w"), 3);
    }

    private static void ninePostsInAText() {
        Due.sentence(29, "REFUSED if a command is refused: also the tenth post of a text");
        FortressWatch x = Due.wall(Edges.EIGHT);
        Due.due("the ninth and the tenth", Due.read(x, "p20<0>0;p21<0>0"), REFUSED);
        Due.refused("the ninth and the tenth", x, 1, 9, 1);
        Due.due("eight posts stay", x.account(0), 8);
        Due.due("the ninth", Due.read(x, "p20<0>0"), 1);
        Due.due("one for another", Due.read(x, "-0;p21<0>0"), 2);
        Due.due("the stone of the ninth", x.postOf(8, 0), 21);
    }

    private static void oneChange() {
        Due.sentence(29, "The changes are the successful calls of read, and others");
        FortressWatch x = Due.wall("p0<11>11;p12<0>0");
        String before = Edges.wall(x);
        Due.due("a text of ten", Due.read(x, "w;h1;h2;h3;h4;h5;h6;h7;l0;-1"), 10);
        Due.due("the changes", x.account(12), 3);
        Due.due("undo()", x.undo(), 2);
        Due.due("the wall before the text", Edges.wall(x), before);
        for (int n = 1; n <= 9; n++) {
            Due.due("a text of two", Due.read(x, "h1;h0"), 2);
            Due.due("the changes", x.account(12), Math.min(8, 2 + n));
        }
    }

    private static void emptiesTheText() {
        Due.sentence(29, "A call that returns an error code leaves the state unchanged, except that read "
            + "empties the text");
        String[] texts = {"h1", "h1;m0", "h0", "h12", "?", "h1;", "h", "h1;h1"};
        for (String text : texts) {
            FortressWatch x = Due.wall("p0<11>11");
            Due.read(x, text);
            Due.due("the text behind \"" + text + "\"", x.account(11), 0);
            Due.due("read() behind \"" + text + "\"", x.read(), -100);
            Due.due("append() behind \"" + text + "\"", x.append('h'), 1);
            Due.due("a text behind \"" + text + "\"", Due.read(x, "5"), 1);
            Due.due("the hour", x.account(7), 5);
        }
    }

    private static void lineStays() {
        Due.sentence(29, "The text, the line and the reasons are in neither undo nor snapshot, and stay");
        FortressWatch x = Due.wall("p0<11>11;p12<0>0");
        x.describe(1);
        Due.due("a good text", Due.read(x, "-1;h1"), 2);
        Due.due("the line behind it", Due.line(x), "1@12<0>0");
        Due.due("a refused text", Due.read(x, "h2;h2"), REFUSED);
        Due.due("the line behind it", Due.line(x), "1@12<0>0");
        Due.due("the reasons behind it", x.refusal(0), 3);
    }
}
