/** Promises 10 to 14, sentence by sentence, at the edges that the document names. */
public final class SightEdgesTest {
    private static final int NONE = FortressWatch.NONE;
    private static final int BAD = FortressWatch.BAD;
    private static final int REFUSED = FortressWatch.REFUSED;
    private static final int NOTHING = FortressWatch.NOTHING;

    public static void main(String[] args) {
        promise10StoneAndReaches();
        promise10BlindAngle();
        promise10Manned();
        promise10HowManyItSees();
        promise10NoOtherPostSees();
        promise10Needed();
        promise10NeededWithoutFullWatch();
        promise10NoSuchPost();
        promise10NoSuchWhat();
        promise11ItsReaches();
        promise11ItsBlindAngle();
        promise11NoSuchPost();
        promise11NoSuchStone();
        promise12HowMany();
        promise12MannedAlone();
        promise12NoSuchStone();
        promise13Set();
        promise13MannedOrNot();
        promise13NoSuchStone();
        promise14WholeRing();
        promise14FirstStone();
        promise14RoundTheRing();
        promise14Numbered();
        promise14MostGaps();
        promise14LowestPost();
        promise14NoneSeesAny();
        promise14ByTheLight();
        promise14NoSuchGap();
        promise14NoSuchWhat();
        promise14NoneBeforeBad();
        Due.end();
    }

    private static void promise10StoneAndReaches() {
        Due.sentence(10, "0 its stone; 1 and 2 its reaches to the left and to the right");
        FortressWatch x = Due.wall("p0<0>11;p23<11>0;p9<3>4;h10");
        int[][] due = {{0, 0, 11}, {23, 11, 0}, {9, 3, 4}};
        for (int post = 0; post < 3; post++) {
            for (int what = 0; what < 3; what++) {
                Due.due("postOf(" + post + ", " + what + ")", x.postOf(post, what), due[post][what]);
            }
        }
    }

    private static void promise10BlindAngle() {
        Due.sentence(10, "3 the first stone of its blind angle, NOTHING without one; 4 how many stones "
            + "that has, 0 without one");
        FortressWatch x = Due.wall("p9<1>1;p3<1>1;b1!0+1");
        Due.due("postOf(0, 3) without one", x.postOf(0, 3), NOTHING);
        Due.due("postOf(0, 4) without one", x.postOf(0, 4), 0);
        Due.due("postOf(1, 3)", x.postOf(1, 3), 0);
        Due.due("postOf(1, 4)", x.postOf(1, 4), 1);
        x.blind(1, 23, 8);
        Due.due("postOf(1, 3) then", x.postOf(1, 3), 23);
        Due.due("postOf(1, 4) then", x.postOf(1, 4), 8);
        x.see(1);
        Due.due("postOf(1, 3) no more", x.postOf(1, 3), NOTHING);
        Due.due("postOf(1, 4) no more", x.postOf(1, 4), 0);
    }

    private static void promise10Manned() {
        Due.sentence(10, "5: 1 if it is manned, otherwise 0");
        FortressWatch x = Due.wall("p9<1>1;p3<1>1;m1");
        Due.due("postOf(0, 5)", x.postOf(0, 5), 0);
        Due.due("postOf(1, 5)", x.postOf(1, 5), 1);
        x.man(1, 0);
        Due.due("postOf(1, 5) then", x.postOf(1, 5), 0);
    }

    private static void promise10HowManyItSees() {
        Due.sentence(10, "6 how many stones it sees");
        FortressWatch x = Due.wall("p9<0>0;p3<11>11;p0<2>5;p20<1>1;b3!19+3");
        int[] due = {1, 23, 8, 0};
        int[] dark = {1, 17, 3, 0};
        for (int post = 0; post < 4; post++) {
            Due.due("postOf(" + post + ", 6)", x.postOf(post, 6), due[post]);
        }
        x.hour(10);
        for (int post = 0; post < 4; post++) {
            Due.due("postOf(" + post + ", 6) in the dark", x.postOf(post, 6), dark[post]);
        }
    }

    private static void promise10NoOtherPostSees() {
        Due.sentence(10, "7 how many of these no other post sees");
        FortressWatch x = Due.wall("p23<2>2");
        Due.due("the only post", x.postOf(0, 7), 5);
        x.post(2, 1, 1);
        Due.due("one stone is seen by another one that is not manned", x.postOf(0, 7), 4);
        Due.due("and by this one", x.postOf(1, 7), 2);
        x.man(0, 1);
        x.man(1, 1);
        Due.due("manned or not", x.postOf(0, 7), 4);
        x.post(0, 11, 11);
        Due.due("all of them are seen by others", x.postOf(0, 7), 0);
        Due.due("those that the third alone sees", x.postOf(2, 7), 23 - 7);
        x.blind(2, 21, 8);
        Due.due("but for a blind angle", x.postOf(0, 7), 4);
        x.hour(10);
        Due.due("by the light", x.postOf(0, 7), 1);
    }

    private static void promise10Needed() {
        Due.sentence(10, "8: 1 if it is needed: each fewest watch has it");
        FortressWatch x = Due.wall("p12<0>0;p0<11>11;p13<1>1;p6<5>5");
        // The fewest watches are 0 and 1, and 1 and 2.
        int[] due = {0, 1, 0, 0};
        for (int post = 0; post < 4; post++) {
            Due.due("postOf(" + post + ", 8)", x.postOf(post, 8), due[post]);
        }
        x.blind(2, 12, 1);
        Due.due("the one of the two that is left", x.postOf(0, 8), 1);
        Due.due("the other one", x.postOf(2, 8), 0);
        x = Due.wall(Edges.NINE_FAR);
        for (int post = 0; post < 9; post++) {
            Due.due("one of nine, of which any two do", x.postOf(post, 8), 0);
        }
        x = Due.wall("p0<0>2;p3<0>2;p6<0>2;p9<0>2;p12<0>2;p15<0>2;p18<0>2;p21<0>0;p23<1>0");
        for (int post = 0; post < 9; post++) {
            Due.due("one of nine that are all needed", x.postOf(post, 8), 1);
        }
    }

    private static void promise10NeededWithoutFullWatch() {
        Due.sentence(10, "Without a full watch no post is needed");
        FortressWatch x = Due.wall("p0<11>11;p5<1>1");
        Due.due("postOf(0, 8)", x.postOf(0, 8), 0);
        Due.due("postOf(1, 8)", x.postOf(1, 8), 0);
        x.post(12, 0, 0);
        Due.due("with a full watch", x.postOf(0, 8), 1);
        x.hour(6);
        Due.due("by the light", x.postOf(0, 8), 0);
    }

    private static void promise10NoSuchPost() {
        Due.sentence(10, "NONE if there is no such post");
        for (int what = 0; what <= 8; what++) {
            Due.due("postOf(0, " + what + ") without posts", new FortressWatch().postOf(0, what), NONE);
        }
        FortressWatch x = Due.wall("p3<1>1;p4<1>1");
        Edges.range("a number of the post", x, 0, 1, NONE, (y, post) -> y.postOf(post, 0));
        x = Due.wall(Edges.NINE);
        Edges.range("a number of the post", x, 0, 8, NONE, (y, post) -> y.postOf(post, 6));
        Due.due("before BAD", x.postOf(9, 9), NONE);
        Due.due("before BAD", x.postOf(-1, -1), NONE);
    }

    private static void promise10NoSuchWhat() {
        Due.sentence(10, "BAD if there is no such what");
        FortressWatch x = Due.wall("p3<1>1");
        Edges.range("the number of a post", x, 0, 8, BAD, (y, what) -> y.postOf(0, what));
    }

    private static void promise11ItsReaches() {
        Due.sentence(11, "A post sees its own stone, and so many stones to the left and to the right as "
            + "its reaches tell");
        FortressWatch x = Due.wall("p0<2>3;p23<3>2;p12<0>0");
        int[][] seen = {{22, 0, 3}, {20, 23, 1}, {12, 12, 12}};
        int[][] unseen = {{21, 4}, {19, 2}, {11, 13}};
        for (int post = 0; post < 3; post++) {
            for (int stone : seen[post]) {
                Due.due("sees(" + post + ", " + stone + ")", x.sees(post, stone), 1);
            }
            for (int stone : unseen[post]) {
                Due.due("sees(" + post + ", " + stone + ")", x.sees(post, stone), 0);
            }
        }
        x.hour(9);
        Due.due("to the right by the light", Edges.sight(x, 0), Edges.stones(0, 1));
        Due.due("to the left by the light", Edges.sight(x, 1), Edges.stones(22, 23));
    }

    private static void promise11ItsBlindAngle() {
        Due.sentence(11, "but for those in its blind angle");
        FortressWatch x = Due.wall("p0<5>5;b0!22+4;p1<5>5");
        int[] seen = {20, 21, 2, 3};
        int[] blind = {22, 23, 0, 1};
        for (int stone : seen) {
            Due.due("sees(0, " + stone + ") beside it", x.sees(0, stone), 1);
        }
        for (int stone : blind) {
            Due.due("sees(0, " + stone + ") in it", x.sees(0, stone), 0);
            Due.due("sees(1, " + stone + ") of another post", x.sees(1, stone), 1);
        }
        x.hour(11);
        Due.due("its reaches by the light, its blind angle as it is", Edges.sight(x, 0), Edges.stones(2, 2));
    }

    private static void promise11NoSuchPost() {
        Due.sentence(11, "NONE if there is no such post");
        Due.due("sees(0, 0) without posts", new FortressWatch().sees(0, 0), NONE);
        FortressWatch x = Due.wall("p3<1>1;p4<1>1");
        Edges.range("seeing by the post", x, 0, 1, NONE, (y, post) -> y.sees(post, 3));
        x = Due.wall(Edges.NINE);
        Edges.range("seeing by the post", x, 0, 8, NONE, (y, post) -> y.sees(post, 3));
    }

    private static void promise11NoSuchStone() {
        Due.sentence(11, "NONE if there is no such stone");
        FortressWatch x = Due.wall("p0<11>11");
        Edges.range("seeing the stone", x, 0, 23, NONE, (y, stone) -> y.sees(0, stone));
        Due.due("neither post nor stone", x.sees(1, 24), NONE);
    }

    private static void promise12HowMany() {
        Due.sentence(12, "Returns how many posts that are manned see a stone");
        FortressWatch x = Due.wall(Edges.NINE_FAR);
        for (int post = 0; post < 9; post++) {
            Due.due("watched(4) by " + post, x.watched(4), post);
            x.man(post, 1);
        }
        Due.due("watched(4) by nine", x.watched(4), 9);
        Due.due("watched(0), the first stone", x.watched(0), 9);
        Due.due("watched(23), the last stone", x.watched(23), 9);
        Due.due("watched(12) by all but one", x.watched(12), 8);
        x.blind(0, 4, 1);
        Due.due("watched(4) but for a blind angle", x.watched(4), 8);
        x.hour(11);
        Due.due("watched(12) by the light", x.watched(12), 5);
    }

    private static void promise12MannedAlone() {
        Due.sentence(12, "A stone is watched if a post that is manned sees it");
        FortressWatch x = Due.wall("p3<1>1;p5<1>1;m0");
        int[] due = {0, 0, 1, 1, 1, 0, 0};
        for (int stone = 0; stone < due.length; stone++) {
            Due.due("watched(" + stone + ")", x.watched(stone), due[stone]);
        }
        x.man(0, 0);
        Due.due("no post is manned", x.watched(3), 0);
    }

    private static void promise12NoSuchStone() {
        Due.sentence(12, "NONE if there is no such stone");
        FortressWatch x = new FortressWatch();
        Edges.range("the posts of the stone", x, 0, 23, NONE, FortressWatch::watched);
        x = Due.wall(Edges.NINE_FAR + ";m0");
        Edges.range("the posts of the stone", x, 0, 23, NONE, FortressWatch::watched);
    }

    private static void promise13Set() {
        Due.sentence(13, "Returns their set, bit k for the post k");
        FortressWatch x = Due.wall(Edges.NINE);
        for (int stone = 0; stone < 9; stone++) {
            Due.due("seenBy(" + stone + ")", x.seenBy(stone), 1 << stone);
        }
        Due.due("seenBy(9)", x.seenBy(9), 0);
        Due.due("seenBy(23)", x.seenBy(23), 0);
        x = Due.wall(Edges.NINE_FAR);
        Due.due("seenBy(0) of nine", x.seenBy(0), 511);
        Due.due("seenBy(12) of nine", x.seenBy(12), 510);
        Due.due("seenBy(20) of nine", x.seenBy(20), 255);
        Due.due("seenBy(23) of nine", x.seenBy(23), 511);
        x.tear(0);
        Due.due("seenBy(12) of eight", x.seenBy(12), 255);
    }

    private static void promise13MannedOrNot() {
        Due.sentence(13, "Returns the posts that see a stone, be they manned or not");
        FortressWatch x = Due.wall("p3<1>1;p4<1>1;p5<0>0;m0;m2");
        Due.due("seenBy(2)", x.seenBy(2), 1);
        Due.due("seenBy(3)", x.seenBy(3), 3);
        Due.due("seenBy(4)", x.seenBy(4), 3);
        Due.due("seenBy(5)", x.seenBy(5), 6);
        x.blind(1, 5, 1);
        Due.due("seenBy(5) but for a blind angle", x.seenBy(5), 4);
        x.hour(7);
        Due.due("seenBy(4) by the light", x.seenBy(4), 2);
    }

    private static void promise13NoSuchStone() {
        Due.sentence(13, "NONE if there is no such stone");
        FortressWatch x = new FortressWatch();
        Edges.range("the set of the stone", x, 0, 23, NONE, FortressWatch::seenBy);
        x = Due.wall(Edges.NINE_FAR);
        Edges.range("the set of the stone", x, 0, 23, NONE, FortressWatch::seenBy);
    }

    private static void promise14WholeRing() {
        Due.sentence(14, "the whole ring is one gap, from the stone 0 on, if no stone is watched");
        Due.due("without posts", Edges.gaps(new FortressWatch()), "0+24");
        FortressWatch x = Due.wall("p5<1>1;p9<0>0;b1!9+1");
        Due.due("with none manned", Edges.gaps(x), "0+24");
        x.man(1, 1);
        Due.due("with a manned one that sees no stone", Edges.gaps(x), "0+24");
        x.man(0, 1);
        Due.due("with three watched stones", Edges.gaps(x), "7+21");
        x.tear(0);
        Due.due("with none watched any more", Edges.gaps(x), "0+24");
    }

    private static void promise14FirstStone() {
        Due.sentence(14, "the first stone of a gap is that which has a watched one to its left");
        for (int stone = 0; stone < 24; stone++) {
            FortressWatch x = new FortressWatch();
            x.post(stone, 0, 0);
            x.man(0, 1);
            Due.due("the gap beside " + stone, Edges.gaps(x), (stone + 1) % 24 + "+23");
        }
    }

    private static void promise14RoundTheRing() {
        Due.sentence(14, "a row of stones side by side that are not watched, as long as can be: also round the ring");
        Due.due("from 22 to 1", Edges.gaps(Due.wall("p11<9>10;m0")), "22+4");
        Due.due("the stone 23", Edges.gaps(Due.wall("p11<11>11;m0")), "23+1");
        Due.due("the stone 0", Edges.gaps(Due.wall("p12<11>11;m0")), "0+1");
        Due.due("23 and 0", Edges.gaps(Due.wall("p12<11>10;m0")), "23+2");
        Due.due("up to 23", Edges.gaps(Due.wall("p10<10>10;m0")), "21+3");
        Due.due("from 0 on", Edges.gaps(Due.wall("p13<10>10;m0")), "0+3");
    }

    private static void promise14Numbered() {
        Due.sentence(14, "Gaps are numbered from 0, by their first stones");
        FortressWatch x = Due.wall("p2<0>0;p20<1>1;p10<0>3;p6<0>0;m0;m1;m2;m3");
        Due.due("the last one goes round the ring", Edges.gaps(x), "3+3 7+3 14+5 22+4");
        x = Due.wall("p0<0>0;p20<1>3;p10<0>3;m0;m1;m2");
        Due.due("none goes round the ring", Edges.gaps(x), "1+9 14+5");
        x = Due.wall("p23<0>0;p12<1>1;m0;m1");
        Due.due("the first one begins at the stone 0", Edges.gaps(x), "0+11 14+9");
        x = Due.wall("p0<11>11;p12<11>11;m0;m1");
        Due.due("no gap", Edges.gaps(x), "");
        Due.due("gapOf(0, 1) of no gap", x.gapOf(0, 1), NONE);
    }

    private static void promise14MostGaps() {
        Due.sentence(14, "a gap for each stone that is not watched, if those beside it are");
        FortressWatch x = Due.wall("p0<1>1;p4<1>1;p8<1>1;p12<1>1;p16<1>1;p20<1>1;m0;m1;m2;m3;m4;m5;"
            + "b0!0+1;b1!4+1;b2!8+1;b3!12+1;b4!16+1;b5!20+1");
        Due.due("twelve gaps", Edges.gaps(x), "0+1 2+1 4+1 6+1 8+1 10+1 12+1 14+1 16+1 18+1 20+1 22+1");
        Due.due("gapOf(11, 0)", x.gapOf(11, 0), 22);
        Due.due("gapOf(12, 0)", x.gapOf(12, 0), NONE);
        Due.due("account(4)", x.account(4), 12);
    }

    private static void promise14LowestPost() {
        Due.sentence(14, "2 the lowest post that sees the most of them");
        FortressWatch x = Due.wall("p23<1>0;p0<0>1;p12<3>3;p1<1>1;p6<0>0;m2;b2!12+1");
        // The gaps are 12, and 16 to 8.
        Due.due("the gaps", Edges.gaps(x), "12+1 16+17");
        Due.due("the second gap", x.gapOf(1, 2), 3);
        x.reach(3, 0, 1);
        Due.due("of several the lowest", x.gapOf(1, 2), 0);
        x.reach(4, 2, 2);
        Due.due("the last post", x.gapOf(1, 2), 4);
        x.post(13, 1, 0);
        Due.due("the first gap", x.gapOf(0, 2), 5);
        x.reach(4, 2, 6);
        Due.due("of two who see its stone the lower", x.gapOf(0, 2), 4);
        x = Due.wall("p5<3>3;p6<2>2;p7<2>2;m0");
        // The gap is 9 to 1: of it the second sees nothing, the third the stone 9.
        Due.due("not the most stones, but the most of the gap's", x.gapOf(0, 2), 2);
        x = Due.wall(Edges.NINE_FAR);
        Due.due("of nine the lowest", x.gapOf(0, 2), 0);
        x = Due.wall(Edges.EIGHT + ";p8<1>1");
        Due.due("of nine the last", x.gapOf(0, 2), 8);
    }

    private static void promise14NoneSeesAny() {
        Due.sentence(14, "NOTHING if none sees any");
        Due.due("without posts", new FortressWatch().gapOf(0, 2), NOTHING);
        FortressWatch x = Due.wall("p5<1>1;p6<0>0;p9<0>0;b2!9+1;m0;m1");
        Due.due("a manned one sees none, nor does one that sees nothing", x.gapOf(0, 2), NOTHING);
        x.see(2);
        Due.due("one sees one of them", x.gapOf(0, 2), 2);
        x = Due.wall("p5<1>1;b0!4+3");
        Due.due("the whole ring", x.gapOf(0, 2), NOTHING);
        Due.due("its first stone all the same", x.gapOf(0, 0), 0);
    }

    private static void promise14ByTheLight() {
        Due.sentence(14, "Gaps by the light, that the stones are watched by");
        FortressWatch x = Due.wall("p5<3>3;p15<2>2;p0<4>4;m0;m1");
        Due.due("the gaps by day", Edges.gaps(x), "9+4 18+8");
        x.hour(8);
        Due.due("the gaps by twilight", Edges.gaps(x), "7+8 16+12");
        Due.due("the post for the second", x.gapOf(1, 2), 2);
        Due.due("the post for the first", x.gapOf(0, 2), NOTHING);
        x.hour(10);
        Due.due("the gaps by night", Edges.gaps(x), "6+9 16+13");
    }

    private static void promise14NoSuchGap() {
        Due.sentence(14, "NONE if there is no such gap");
        FortressWatch x = Due.wall("p5<1>1;p15<1>1");
        for (int what = 0; what <= 2; what++) {
            for (int gap : Edges.outside(0, 0)) {
                Due.due("gapOf(" + gap + ", " + what + ") of the ring", x.gapOf(gap, what), NONE);
            }
        }
        x.man(0, 1);
        x.man(1, 1);
        Edges.range("a number of the gap", x, 0, 1, NONE, (y, gap) -> y.gapOf(gap, 0));
        x = Due.wall("p0<11>11;p12<0>0;w");
        for (int gap : Edges.outside(0, -1)) {
            Due.due("gapOf(" + gap + ", 0) of none", x.gapOf(gap, 0), NONE);
        }
    }

    private static void promise14NoSuchWhat() {
        Due.sentence(14, "BAD if there is no such what");
        FortressWatch x = Due.wall("p5<1>1;p15<1>1");
        // The post 0 is the lowest for the ring: no number of it is an error.
        Edges.range("the number of a gap", x, 0, 2, BAD, (y, what) -> y.gapOf(0, what));
        x.man(0, 1);
        Edges.range("the number of a gap", x, 0, 2, BAD, (y, what) -> y.gapOf(0, what));
    }

    private static void promise14NoneBeforeBad() {
        Due.sentence(14, "If several errors apply, the one that is listed first is returned");
        FortressWatch x = Due.wall("p0<11>11;p12<0>0;w");
        Due.due("no gap, no what", x.gapOf(0, 3), NONE);
        Due.due("no gap, no what", x.gapOf(-1, -1), NONE);
        Due.due("without a gap", x.account(4), 0);
        x.hour(11);
        Due.due("no what", x.gapOf(0, 3), BAD);
        Due.due("no second gap, no what", x.gapOf(2, 3), NONE);
        Due.due("watch() in the dark", x.watch(), REFUSED);
    }
}
