/** Promises 25 to 28 and 30, sentence by sentence, at the edges that the document names. */
public final class LinesEdgesTest {
    private static final int NONE = FortressWatch.NONE;
    private static final int BAD = FortressWatch.BAD;
    private static final int REFUSED = FortressWatch.REFUSED;
    private static final int NOTHING = FortressWatch.NOTHING;
    private static final String FULL = "w".repeat(70);

    public static void main(String[] args) {
        promise25Line();
        promise25BlindAngle();
        promise25Manned();
        promise25WithoutTheLight();
        promise25Length();
        promise25InPlace();
        promise25NoSuchPost();
        promise26Line();
        promise26Dots();
        promise26NineAtMost();
        promise26Length();
        promise26InPlace();
        promise27EmptyAtFirst();
        promise27FromZero();
        promise27NoSuchIndex();
        promise27Stays();
        promise28Length();
        promise28OutOfRange();
        promise28Seventy();
        promise28Stays();
        promise30Reasons();
        promise30Command();
        promise30NotInAText();
        promise30Last();
        promise30OtherErrors();
        promise30Stays();
        promise30NoSuchWhat();
        promise30NothingRefused();
        Due.end();
    }

    private static void promise25Line() {
        Due.sentence(25, "its number, \"@\" and its stone, \"<\" and its reach to the left, \">\" and "
            + "that to the right");
        FortressWatch x = Due.wall("p0<0>0;p23<11>11;p10<9>10;p9<10>9;p1<1>1;p2<0>11;p3<11>0;p4<2>3;p19<7>6");
        String[] due = {"0@0<0>0", "1@23<11>11", "2@10<9>10", "3@9<10>9", "4@1<1>1", "5@2<0>11", "6@3<11>0",
            "7@4<2>3", "8@19<7>6"};
        for (int post = 0; post < 9; post++) {
            Due.due("the line about " + post, Due.described(x, post), due[post]);
        }
        x.tear(0);
        Due.due("the line with another number", Due.described(x, 7), "7@19<7>6");
    }

    private static void promise25BlindAngle() {
        Due.sentence(25, "\"!\" and the first stone of its blind angle, \"+\" and how many stones that "
            + "has, if it has one");
        FortressWatch x = Due.wall("p5<1>2");
        Due.due("without one", Due.described(x, 0), "0@5<1>2");
        x.blind(0, 0, 1);
        Due.due("the least", Due.described(x, 0), "0@5<1>2!0+1");
        x.blind(0, 23, 8);
        Due.due("the most", Due.described(x, 0), "0@5<1>2!23+8");
        x.see(0);
        Due.due("without one again", Due.described(x, 0), "0@5<1>2");
    }

    private static void promise25Manned() {
        Due.sentence(25, "\"*\" if it is manned: \"2@17<4>5!19+2*\"");
        FortressWatch x = Due.wall("p0<0>0;p1<0>0;p17<4>5;b2!19+2;m2;m0");
        Due.due("the document's line", Due.described(x, 2), "2@17<4>5!19+2*");
        Due.due("a plain one that is manned", Due.described(x, 0), "0@0<0>0*");
        Due.due("a plain one that is not", Due.described(x, 1), "1@1<0>0");
        x.man(2, 0);
        Due.due("not manned any more", Due.described(x, 2), "2@17<4>5!19+2");
    }

    private static void promise25WithoutTheLight() {
        Due.sentence(25, "Reaches are told as they are without the light");
        FortressWatch x = Due.wall("p17<4>2;b0!16+2;h11");
        Due.due("by night", Due.described(x, 0), "0@17<4>2!16+2");
    }

    private static void promise25Length() {
        Due.sentence(25, "Returns its length");
        FortressWatch x = Due.wall("p0<0>0;p23<11>11;p10<1>1");
        Due.due("describe(0)", x.describe(0), 7);
        Due.due("describe(1)", x.describe(1), 10);
        x.blind(1, 23, 8);
        Due.due("describe(1) with a blind angle", x.describe(1), 15);
        x.man(1, 1);
        Due.due("describe(1), the longest", x.describe(1), 16);
        x.man(0, 1);
        Due.due("describe(0), manned", x.describe(0), 8);
        x.blind(0, 9, 8);
        Due.due("describe(0) with a blind angle", x.describe(0), 12);
        Due.due("describe(2)", x.describe(2), 8);
    }

    private static void promise25InPlace() {
        Due.sentence(25, "Writes the line about a post, in place of the line before");
        FortressWatch x = Due.wall("p23<11>11;p5<1>1");
        x.show();
        x.describe(0);
        Due.due("in place of a longer one", Due.line(x), "0@23<11>11");
        x.describe(1);
        Due.due("in place of one a bit longer", Due.line(x), "1@5<1>1");
        x.describe(0);
        Due.due("in place of a shorter one", Due.line(x), "0@23<11>11");
        x.reach(0, 0, 0);
        Due.due("the line as it was written", Due.line(x), "0@23<11>11");
    }

    private static void promise25NoSuchPost() {
        Due.sentence(25, "NONE if there is no such post");
        FortressWatch x = new FortressWatch();
        Due.due("describe(0) without posts", x.describe(0), NONE);
        Due.due("the line stays empty", Due.line(x), "");
        x = Due.wall("p23<11>11;p5<1>1");
        Edges.range("a line about the post", x, 0, 1, NONE, FortressWatch::describe);
        for (int post : Edges.outside(0, 1)) {
            x.describe(post);
            Due.due("the line stays", Due.line(x), "1@5<1>1");
        }
        x = Due.wall(Edges.NINE);
        Edges.range("a line about the post", x, 0, 8, NONE, FortressWatch::describe);
    }

    private static void promise26Line() {
        Due.sentence(26, "The line about the wall has for each stone how many manned posts see it");
        FortressWatch x = Due.wall("p0<2>1;p23<1>1;p12<0>3;p13<0>0;p14<1>2;m0;m1;m2;m4");
        Due.due("four sentries", Due.shown(x), "21..........12221.....22");
        x.man(3, 1);
        Due.due("five sentries", Due.shown(x), "21..........13221.....22");
        x.blind(0, 23, 2);
        Due.due("but for a blind angle", Due.shown(x), "11..........13221.....21");
        x.hour(7);
        Due.due("by the light", Due.shown(x), "............1221.......1");
    }

    private static void promise26Dots() {
        Due.sentence(26, "\".\" for none");
        FortressWatch x = new FortressWatch();
        Due.due("without posts", Due.shown(x), ".".repeat(24));
        x = Due.wall("p3<2>2;p9<0>0;b1!9+1;m1");
        Due.due("by one that is not manned, and one that sees none", Due.shown(x), ".".repeat(24));
        x.man(0, 1);
        Due.due("five stones", Due.shown(x), ".11111" + ".".repeat(18));
    }

    private static void promise26NineAtMost() {
        Due.sentence(26, "\"+\" for more than 9: not for 9");
        FortressWatch x = Due.wall(Edges.NINE_FAR + Edges.ALL_MANNED);
        Due.due("nine sentries", Due.shown(x), "999999999999888888888999");
        x.hour(11);
        Due.due("nine sentries by night", Due.shown(x), "999999999876543222345678");
    }

    private static void promise26Length() {
        Due.sentence(26, "Returns its length");
        Due.due("show() without posts", new FortressWatch().show(), 24);
        FortressWatch x = Due.wall("p0<11>11;p12<0>0;w");
        Due.due("show() of a full watch", x.show(), 24);
        Due.due("the last sign", x.sign(23), '1');
        Due.due("no sign behind it", x.sign(24), NONE);
    }

    private static void promise26InPlace() {
        Due.sentence(26, "Writes the line about the wall, in place of the line before");
        FortressWatch x = Due.wall("p5<1>1;m0");
        x.describe(0);
        x.show();
        Due.due("in place of the post's", Due.line(x), "....111" + ".".repeat(17));
        x.man(0, 0);
        Due.due("as it was written", Due.line(x), "....111" + ".".repeat(17));
        x.show();
        Due.due("in place of the wall's", Due.line(x), ".".repeat(24));
    }

    private static void promise27EmptyAtFirst() {
        Due.sentence(27, "a character of the line, which is empty at first");
        FortressWatch x = new FortressWatch();
        for (int index : Edges.outside(0, -1)) {
            Due.due("sign(" + index + ")", x.sign(index), NONE);
        }
        x.post(5, 1, 1);
        Due.due("sign(0) with a post", x.sign(0), NONE);
    }

    private static void promise27FromZero() {
        Due.sentence(27, "the index, from 0; Returns its code");
        FortressWatch x = Due.wall("p17<4>5;b0!19+2;m0");
        int length = x.describe(0);
        String due = "0@17<4>5!19+2*";
        for (int index = 0; index < length; index++) {
            Due.due("sign(" + index + ")", x.sign(index), due.charAt(index));
        }
        x.show();
        Due.due("sign(0) of the wall", x.sign(0), '.');
        Due.due("sign(13) of the wall", x.sign(13), '1');
    }

    private static void promise27NoSuchIndex() {
        Due.sentence(27, "NONE if there is no such index");
        FortressWatch x = Due.wall("p23<11>11;p5<1>1;b0!23+8;m0");
        x.show();
        Edges.range("the sign", x, 0, 23, NONE, FortressWatch::sign);
        x.describe(0);
        Edges.range("the sign", x, 0, 15, NONE, FortressWatch::sign);
        x.describe(1);
        Edges.range("the sign", x, 0, 6, NONE, FortressWatch::sign);
        Due.due("sign(15) of the line before", x.sign(15), NONE);
    }

    private static void promise27Stays() {
        Due.sentence(27, "The text, the line and the reasons are in neither undo nor snapshot, and stay");
        FortressWatch x = Due.wall("p5<1>1");
        x.save();
        x.describe(0);
        x.tear(0);
        Due.due("after a change", Due.line(x), "0@5<1>1");
        x.undo();
        Due.due("after undo", Due.line(x), "0@5<1>1");
        x.show();
        x.restore();
        Due.due("after restore", Due.line(x), ".".repeat(24));
        Due.read(x, "h1;h2");
        Due.read(x, "?");
        Due.due("after read", Due.line(x), ".".repeat(24));
    }

    private static void promise28Length() {
        Due.sentence(28, "Returns the length of the text");
        FortressWatch x = new FortressWatch();
        for (int length = 1; length <= 70; length++) {
            Due.due("append(119)", x.append('w'), length);
            Due.due("account(11)", x.account(11), length);
        }
        x.read();
        Due.due("append(119) to an empty text", x.append('w'), 1);
    }

    private static void promise28OutOfRange() {
        Due.sentence(28, "BAD if the code is out of range");
        FortressWatch x = new FortressWatch();
        Edges.range("the code", x, 32, 126, BAD, FortressWatch::append);
        Due.due("the text has the two good ones", x.account(11), 2);
        int[] codes = {0, 10, 13, 9, 119 + 256, 119 + 65536, 119 - 256, -119};
        for (int code : codes) {
            Due.due("append(" + code + ")", x.append(code), BAD);
        }
        Due.due("the text still", x.account(11), 2);
        for (int code = 32; code <= 126; code++) {
            x = new FortressWatch();
            Due.due("append(" + code + ")", x.append(code), 1);
        }
    }

    private static void promise28Seventy() {
        Due.sentence(28, "BAD if the text has 70 characters");
        FortressWatch x = new FortressWatch();
        Due.append(x, FULL.substring(1));
        Due.due("the seventieth", x.append('w'), 70);
        Due.due("the next", x.append('w'), BAD);
        Due.due("a wrong one", x.append(31), BAD);
        Due.due("and again", x.append('w'), BAD);
        Due.due("the text", x.account(11), 70);
        Due.due("its second character is the fault", x.read(), -101);
        Due.due("the first of another text", x.append('w'), 1);
    }

    private static void promise28Stays() {
        Due.sentence(28, "The text, the line and the reasons are in neither undo nor snapshot, and stay");
        FortressWatch x = Due.wall("p5<1>1");
        Due.append(x, "h");
        x.save();
        Due.append(x, "1");
        x.hour(4);
        Due.append(x, "1");
        Due.due("after a change", x.account(11), 3);
        x.undo();
        Due.due("after undo", x.account(11), 3);
        x.restore();
        Due.due("after restore", x.account(11), 3);
        Due.due("what the text told", x.read() * 100 + x.account(7), 111);
    }

    private static void promise30Reasons() {
        Due.sentence(30, "0 the reason; 1 its detail");
        FortressWatch x = Due.wall(Edges.NINE);
        x.post(9, 0, 0);
        Due.refused("a tenth post", x, 1, 9, NOTHING);
        x.post(7, 0, 0);
        Due.refused("a post on a taken stone", x, 2, 7, NOTHING);
        x.reach(5, 0, 0);
        Due.refused("the same reaches", x, 3, 0, NOTHING);
        x.man(8, 0);
        Due.refused("not manned already", x, 3, 0, NOTHING);
        x.man(8, 1);
        x.man(8, 1);
        Due.refused("manned already", x, 3, 1, NOTHING);
        x.hour(11);
        x.hour(11);
        Due.refused("the same hour", x, 3, 11, NOTHING);
        x.blind(2, 22, 3);
        x.blind(2, 22, 3);
        Due.refused("the same blind angle", x, 3, 22, NOTHING);
        x.watch();
        Due.refused("no full watch", x, 4, 15, NOTHING);
        x.see(6);
        Due.refused("no blind angle", x, 5, 6, NOTHING);
    }

    private static void promise30Command() {
        Due.sentence(30, "2 the number of the command in its text, from 0");
        String[] texts = {"p9<0>0", "r1<2>2", "n0", "m1", "l0", "h0", "w",
            "h1;p9<0>0", "h1;r1<2>2", "b0!0+1;n1", "m0;m1", "m0;l1;l0;l0", "h1;h2;h2", "p0<0>0;w",
            "b0!21+8;m0;h1;b0!21+8", "-0;p9<0>0", "-0;-0;h0"};
        int[][] due = {{2, 1, 0}, {3, 2, 0}, {5, 0, 0}, {3, 1, 0}, {3, 0, 0}, {3, 0, 0}, {4, 16, 0},
            {2, 1, 1}, {3, 2, 1}, {5, 1, 1}, {3, 1, 1}, {3, 0, 3}, {3, 2, 2}, {4, 15, 1},
            {3, 21, 3}, {2, 0, 1}, {3, 0, 2}};
        for (int n = 0; n < texts.length; n++) {
            FortressWatch x = Due.wall("p5<1>1;p9<2>2;m1");
            Due.due("read \"" + texts[n] + "\"", Due.read(x, texts[n]), REFUSED);
            Due.refused("read \"" + texts[n] + "\"", x, due[n][0], due[n][1], due[n][2]);
        }
        FortressWatch x = Due.wall("p0<11>11;p12<0>0;m0");
        Due.due("the last of as many as a text can have", Due.read(x, "w;".repeat(34) + "m0"), REFUSED);
        Due.refused("the last of as many as a text can have", x, 3, 1, 34);
    }

    private static void promise30NotInAText() {
        Due.sentence(30, "NOTHING for another call than read");
        FortressWatch x = Due.wall("p5<1>1");
        Due.due("in a text", Due.read(x, "h1;h1"), REFUSED);
        Due.refused("in a text", x, 3, 1, 1);
        x.hour(0);
        Due.refused("by a call behind it", x, 3, 0, NOTHING);
        Due.due("in a text", Due.read(x, "h1;h2;p5<1>1"), REFUSED);
        Due.refused("in a text", x, 2, 0, 2);
        Due.due("a text with success", Due.read(x, "h1;h2"), 2);
        x.see(0);
        Due.refused("by a call behind that", x, 5, 0, NOTHING);
        Due.due("a text with another error", Due.read(x, "h1;m1"), BAD);
        x.watch();
        Due.refused("by a call behind that", x, 4, 21, NOTHING);
    }

    private static void promise30Last() {
        Due.sentence(30, "Returns a number about what was refused last");
        FortressWatch x = Due.wall("p5<1>1;p9<4>4");
        x.hour(0);
        x.see(1);
        Due.refused("the later of two", x, 5, 1, NOTHING);
        x.hour(0);
        Due.refused("the first again", x, 3, 0, NOTHING);
        x.hour(7);
        x.man(1, 1);
        x.show();
        Due.refused("with successes behind it", x, 3, 0, NOTHING);
    }

    private static void promise30OtherErrors() {
        Due.sentence(30, "What is refused: other errors are not");
        FortressWatch x = Due.wall("p5<1>1");
        x.hour(0);
        x.hour(12);
        x.tear(1);
        x.post(24, 0, 0);
        x.post(0, 12, 0);
        x.man(0, 2);
        x.ranked(3, 0);
        x.next();
        x.undo();
        x.undo();
        x.undo();
        x.restore();
        Due.read(x, "h1;h12");
        Due.read(x, "h");
        x.refusal(3);
        Due.refused("what was refused before them", x, 3, 0, NOTHING);
    }

    private static void promise30Stays() {
        Due.sentence(30, "The text, the line and the reasons are in neither undo nor snapshot, and stay");
        FortressWatch x = Due.wall("p5<1>1");
        x.save();
        x.hour(4);
        x.hour(4);
        x.undo();
        Due.refused("after undo", x, 3, 4, NOTHING);
        x.restore();
        Due.refused("after restore", x, 3, 4, NOTHING);
        Due.due("a refused text changes nothing but the reasons", Due.read(x, "h4;m0;m0"), REFUSED);
        Due.refused("a refused text", x, 3, 1, 2);
        x.undo();
        x.restore();
        Due.refused("after restore", x, 3, 1, 2);
    }

    private static void promise30NoSuchWhat() {
        Due.sentence(30, "BAD if there is no such what");
        FortressWatch x = new FortressWatch();
        for (int what : Edges.outside(0, 2)) {
            Due.due("refusal(" + what + ") before NOTHING", x.refusal(what), BAD);
        }
        x.hour(0);
        Edges.range("the number of a refusal", x, 0, 2, BAD, FortressWatch::refusal);
    }

    private static void promise30NothingRefused() {
        Due.sentence(30, "NOTHING if nothing was refused");
        FortressWatch x = new FortressWatch();
        Due.refused("a new object", x, NOTHING, NOTHING, NOTHING);
        x.post(5, 1, 1);
        x.post(5, 1, 12);
        x.tear(1);
        Due.read(x, "h1;h2");
        Due.read(x, "h1;m9");
        Due.read(x, "h1;h");
        x.undo();
        Due.refused("after other calls", x, NOTHING, NOTHING, NOTHING);
    }
}
