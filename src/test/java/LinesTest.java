/** Promises 25 to 30: lines, the text of commands, and reasons. */
public final class LinesTest {
    private static final int NONE = FortressWatch.NONE;
    private static final int BAD = FortressWatch.BAD;
    private static final int REFUSED = FortressWatch.REFUSED;
    private static final int NOTHING = FortressWatch.NOTHING;

    public static void main(String[] args) {
        promise25Describe();
        promise26Show();
        promise27Sign();
        promise28Append();
        promise29ReadCommands();
        promise29ReadFaults();
        promise29ReadAllOrNone();
        promise29ReadLongest();
        promise30Refusal();
        Due.end();
    }

    private static void promise25Describe() {
        FortressWatch x = Due.wall("p5<1>2;p17<4>5;p23<11>11;b1!19+2;b2!23+8;m1;m2;p0<0>10;b3!10+1");
        Due.due("a plain post", Due.described(x, 0), "0@5<1>2");
        Due.due("the post of the document", Due.described(x, 1), "1@17<4>5!19+2*");
        Due.due("the longest line", Due.described(x, 2), "2@23<11>11!23+8*");
        Due.due("an empty reach, not manned", Due.described(x, 3), "3@0<0>10!10+1");
        Due.due("describe(4)", x.describe(4), NONE);
        Due.due("describe(-1)", x.describe(-1), NONE);
        Due.due("the line stays then", Due.line(x), "3@0<0>10!10+1");
        x.hour(11);
        Due.due("reaches without the light", Due.described(x, 1), "1@17<4>5!19+2*");
        x.see(1);
        Due.due("without the blind angle", Due.described(x, 1), "1@17<4>5*");
        x.man(0, 1);
        Due.due("manned", Due.described(x, 0), "0@5<1>2*");
        x.blind(0, 0, 1);
        Due.due("a blind angle from the stone 0", Due.described(x, 0), "0@5<1>2!0+1*");
    }

    private static void promise26Show() {
        FortressWatch x = new FortressWatch();
        Due.due("nothing is watched", Due.shown(x), "........................");
        x = Due.wall("p0<1>2;p2<1>0;p12<0>0;p20<0>2;m0;m1;m3");
        Due.due("some are watched", Due.shown(x), "122.................1111");
        x = Due.wall("p0<11>11;p1<11>11;p2<11>11;p3<11>11;p4<11>11;p5<11>11;p6<11>11;p7<11>11;p8<11>11;"
            + "m0;m1;m2;m3;m4;m5;m6;m7;m8");
        Due.due("nine sentries", Due.shown(x), "999999999999888888888999");
        x.hour(10);
        Due.due("nine sentries in the dark", Due.shown(x), "999999999876543222345678");
        Due.due("describe in place of the line", Due.described(x, 3), "3@3<11>11*");
    }

    private static void promise27Sign() {
        FortressWatch x = new FortressWatch();
        Due.due("an empty line", x.sign(0), NONE);
        x.show();
        Due.due("sign(0)", x.sign(0), '.');
        Due.due("sign(23)", x.sign(23), '.');
        Due.due("sign(24)", x.sign(24), NONE);
        Due.due("sign(-1)", x.sign(-1), NONE);
        Due.due("sign(MIN)", x.sign(Integer.MIN_VALUE), NONE);
        Due.due("sign(MAX)", x.sign(Integer.MAX_VALUE), NONE);
        x.post(7, 0, 0);
        Due.due("the line stays after a change", Due.line(x), "........................");
        x.describe(0);
        Due.due("a shorter line's end", x.sign(7), NONE);
        Due.due("a shorter line's last", x.sign(6), '0');
        x.undo();
        Due.due("the line stays after undo", Due.line(x), "0@7<0>0");
        x.save();
        x.restore();
        Due.due("the line stays after restore", Due.line(x), "0@7<0>0");
    }

    private static void promise28Append() {
        FortressWatch x = new FortressWatch();
        Due.due("append(32)", x.append(32), 1);
        Due.due("append(126)", x.append(126), 2);
        Due.due("append(31)", x.append(31), BAD);
        Due.due("append(127)", x.append(127), BAD);
        Due.due("append(-1)", x.append(-1), BAD);
        Due.due("append(MAX)", x.append(Integer.MAX_VALUE), BAD);
        Due.due("append(112 + 65536)", x.append(112 + 65536), BAD);
        Due.due("account(11)", x.account(11), 2);
        for (int length = 3; length <= 70; length++) {
            Due.due("append to " + length, x.append('w'), length);
        }
        Due.due("append to 71", x.append('w'), BAD);
        Due.due("account(11)", x.account(11), 70);
        Due.due("the text's fault", x.read(), -100);
        Due.due("account(11) after read", x.account(11), 0);
        Due.due("append after read", x.append('w'), 1);
    }

    private static void promise29ReadCommands() {
        FortressWatch x = new FortressWatch();
        Due.due("two posts", Due.read(x, "p0<11>11;p12<03>4"), 2);
        Due.due("the second", Due.described(x, 1), "1@12<3>4");
        Due.due("leading zeros", Due.read(x, "p05<00>01;r2<1>02"), 2);
        Due.due("the third", Due.described(x, 2), "2@5<1>2");
        Due.due("blind angles", Due.read(x, "b0!9+2;b1!09+8;n1"), 3);
        Due.due("the first", Due.described(x, 0), "0@0<11>11!9+2");
        Due.due("manned or not", Due.read(x, "m1;m2;l1"), 3);
        Due.due("who is manned", x.postOf(0, 5) + 2 * x.postOf(1, 5) + 4 * x.postOf(2, 5), 4);
        Due.due("the hour", Due.read(x, "h11;h00;h1"), 3);
        Due.due("the hour told", x.account(7), 1);
        Due.due("a watch", Due.read(x, "w;w"), 2);
        Due.due("watches manned", x.account(10), 2);
        Due.due("the watch", x.postOf(0, 5) + 2 * x.postOf(1, 5) + 4 * x.postOf(2, 5), 3);
        Due.due("a post torn down", Due.read(x, "-1;-1;-0"), 3);
        Due.due("posts then", x.account(0), 0);
        Due.due("a text is one change", x.account(12), 7);
        Due.due("undo of the last text", x.undo(), 6);
        Due.due("posts again", x.account(0), 3);
    }

    private static void promise29ReadFaults() {
        String[] texts = {"", "w;", ";", "w;;w", "ww", "x", "W", " w", "w ", "w;x", "p", "p<", "p1", "p123<", "p12", "p12<",
            "p12<>", "p12<1", "p12<1>", "p12<1>;", "p12<111>1", "p12<1>111", "p1>1<1", "p-1<1>1", "-", "-10", "--",
            "-0;", "r", "r0", "r00<1>1", "r0<", "r0<1>", "r0<12>123", "r0<123>1", "b0", "b0!", "b0!1", "b0!123+1", "b0!12+",
            "b0!12+10", "b00!1+1", "b0+1", "n", "n00", "nn", "m", "m01", "l", "l01", "l;", "h", "h123", "h1;h", "h:",
            "h/", "w;w;w;p1<1>1;q", "w0", "m0 ;m1"};
        int[] faults = {0, 2, 0, 2, 1, 0, 0, 0, 1, 2, 1, 1, 2, 3, 3, 4,
            4, 5, 6, 6, 6, 8, 2, 1, 1, 2, 1,
            3, 1, 2, 2, 3, 5, 8, 5, 2, 3, 4, 5, 6,
            7, 2, 2, 1, 2, 1, 1, 2, 1, 2, 1, 1, 3, 4, 1,
            1, 13, 1, 2};
        FortressWatch x = Due.wall("p0<11>11;p12<11>11");
        for (int n = 0; n < texts.length; n++) {
            Due.due("read \"" + texts[n] + "\"", Due.read(x, texts[n]), -100 - faults[n]);
            Due.due("the text after \"" + texts[n] + "\"", x.account(11), 0);
        }
        Due.due("no fault changes anything", x.account(12), 2);
        Due.due("a fault behind a refused command", Due.read(x, "h0;m"), -104);
        Due.due("a fault behind a good command", Due.read(x, "h1;m0;?"), -106);
        Due.due("the hour stays", x.account(7), 0);
        Due.refused("faults keep no reasons", x, NOTHING, NOTHING, NOTHING);
    }

    private static void promise29ReadAllOrNone() {
        FortressWatch x = Due.wall("p0<5>5;p12<5>5;m0");
        Due.due("the last one is refused", Due.read(x, "p6<1>1;h3;m1;h3"), REFUSED);
        Due.refused("the last one is refused", x, 3, 3, 3);
        Due.due("no post was built", x.account(0), 2);
        Due.due("none counts as built", x.account(8), 2);
        Due.due("the hour stays", x.account(7), 0);
        Due.due("who is manned stays", x.account(1), 1);
        Due.due("no change", x.account(12), 3);
        Due.due("the text is empty", x.account(11), 0);
        Due.due("a post that is not there", Due.read(x, "h4;m2"), BAD);
        Due.due("a stone that is not there", Due.read(x, "h4;p24<1>1"), BAD);
        Due.due("a reach out of range", Due.read(x, "r0<12>1"), BAD);
        Due.due("an hour out of range", Due.read(x, "h12"), BAD);
        Due.due("a blind angle of none", Due.read(x, "b0!1+0"), BAD);
        Due.due("a blind angle of nine", Due.read(x, "b0!1+9"), BAD);
        Due.due("no post 9", Due.read(x, "-9"), BAD);
        Due.refused("BAD keeps the reasons", x, 3, 3, 3);
        Due.due("the first failure decides: refused", Due.read(x, "m0;m9"), REFUSED);
        Due.refused("the first failure decides", x, 3, 1, 0);
        Due.due("the first failure decides: bad", Due.read(x, "l0;m9;h0"), BAD);
        Due.refused("the first failure decides", x, 3, 1, 0);
        Due.due("a command upon others", Due.read(x, "p6<0>0;p18<0>0;w;h6;w"), REFUSED);
        Due.refused("a command upon others", x, 4, 4, 4);
        Due.due("no watch counts as manned", x.account(10), 0);
        Due.due("the sentry after all", x.postOf(0, 5), 1);
        Due.due("the text after a refused one", Due.read(x, "l0"), 1);
    }

    private static void promise29ReadLongest() {
        FortressWatch x = Due.wall("p0<11>11;p12<0>0");
        String longest = "w;w;w;w;w;w;w;w;w;w;w;w;w;w;w;w;w;w;w;w;w;w;w;w;w;w;w;w;w;w;w;w;w;w;w";
        Due.due("thirty-five commands", Due.read(x, longest), 35);
        Due.due("watches manned", x.account(10), 35);
        Due.due("seventy characters", Due.read(x, longest + ";"), -170);
        Due.due("seventy characters without fault", Due.read(x, longest.substring(4) + ";h1;w"), 35);
        Due.due("one change each", x.account(12), 4);
    }

    private static void promise30Refusal() {
        FortressWatch x = new FortressWatch();
        Due.due("refusal(0)", x.refusal(0), NOTHING);
        Due.due("refusal(2)", x.refusal(2), NOTHING);
        Due.due("refusal(-1)", x.refusal(-1), BAD);
        Due.due("refusal(3)", x.refusal(3), BAD);
        Due.due("a text is refused", Due.read(x, "p1<1>1;p2<2>2;p2<1>1"), REFUSED);
        Due.refused("a text is refused", x, 2, 1, 2);
        Due.due("refusal(3)", x.refusal(3), BAD);
        x.post(5, 1, 1);
        Due.refused("a success keeps the reasons", x, 2, 1, 2);
        x.see(0);
        Due.refused("see is refused", x, 5, 0, NOTHING);
        x.undo();
        x.save();
        x.restore();
        Due.refused("undo and restore keep the reasons", x, 5, 0, NOTHING);
        Due.due("n refused in a text", Due.read(x, "p1<1>1;p2<3>4;n1"), REFUSED);
        Due.refused("n refused in a text", x, 5, 1, 2);
        Due.due("r refused in a text", Due.read(x, "p1<1>1;r0<7>4;r0<7>4"), REFUSED);
        Due.refused("r refused in a text", x, 3, 7, 2);
        Due.due("b refused in a text", Due.read(x, "p1<1>1;b0!7+4;b0!7+4"), REFUSED);
        Due.refused("b refused in a text", x, 3, 7, 2);
        Due.due("l refused in a text", Due.read(x, "p1<1>1;l0"), REFUSED);
        Due.refused("l refused in a text", x, 3, 0, 1);
        Due.due("w refused in a text", Due.read(x, "p1<1>1;w"), REFUSED);
        Due.refused("w refused in a text", x, 4, 21, 1);
        x.hour(0);
        Due.refused("a call refused behind texts", x, 3, 0, NOTHING);
        Due.due("a tenth post in a text", Due.read(x, "p0<0>0;p1<0>0;p2<0>0;p3<0>0;p4<0>0;p5<0>0;p6<0>0;p7<0>0;p8<0>0"), 9);
        Due.due("a tenth post in a text", Due.read(x, "h1;p9<1>1"), REFUSED);
        Due.refused("a tenth post in a text", x, 1, 9, 1);
    }
}
