/** Promises 10 to 14: what is seen. */
public final class SightTest {
    private static final int NONE = FortressWatch.NONE;
    private static final int BAD = FortressWatch.BAD;
    private static final int NOTHING = FortressWatch.NOTHING;

    public static void main(String[] args) {
        promise10PostOf();
        promise10Needed();
        promise11Sees();
        promise12Watched();
        promise13SeenBy();
        promise14GapOf();
        promise14GapsRoundTheRing();
        promise14MostGaps();
        promise14PostForAGap();
        Due.end();
    }

    private static void promise10PostOf() {
        FortressWatch x = Due.wall("p2<4>1;p22<0>2;p12<11>11;b0!22+2;m1");
        int[][] due = {
            {2, 4, 1, 22, 2, 0, 4, 0, 0},
            {22, 0, 2, NOTHING, 0, 1, 3, 0, 0},
            {12, 11, 11, NOTHING, 0, 0, 23, 18, 1}};
        for (int post = 0; post < 3; post++) {
            for (int what = 0; what < 9; what++) {
                // Of the stones 0 to 3 and 22 to 0 the one at 12 sees all but the stone 0.
                Due.due("postOf(" + post + ", " + what + ")", x.postOf(post, what), due[post][what]);
            }
        }
        Due.due("postOf(0, 9)", x.postOf(0, 9), BAD);
        Due.due("postOf(0, -1)", x.postOf(0, -1), BAD);
        Due.due("postOf(3, 9)", x.postOf(3, 9), NONE);
        Due.due("postOf(-1, 0)", x.postOf(-1, 0), NONE);
        Due.due("postOf(MAX, 0)", x.postOf(Integer.MAX_VALUE, 0), NONE);
        x.hour(11);
        Due.due("reaches without the light", x.postOf(0, 1), 4);
        Due.due("sights by the light", x.postOf(0, 6), 2);
        Due.due("alone by the light", x.postOf(0, 7), 2);
    }

    private static void promise10Needed() {
        FortressWatch x = Due.wall("p0<11>11;p12<0>0;p13<0>0;p11<1>1");
        Due.due("two fewest watches", x.watches(), 2);
        int[] needed = {1, 0, 0, 0};
        for (int post = 0; post < 4; post++) {
            Due.due("needed(" + post + ")", x.postOf(post, 8), needed[post]);
        }
        x.tear(3);
        Due.due("one fewest watch", x.watches(), 1);
        Due.due("the other is needed then", x.postOf(1, 8), 1);
        x.tear(1);
        Due.due("none is needed without a full watch", x.postOf(0, 8), 0);
    }

    private static void promise11Sees() {
        FortressWatch x = Due.wall("p1<3>2;b0!0+1;p12<11>11");
        for (int stone = 0; stone < 24; stone++) {
            int seen = stone == 22 || stone == 23 || stone == 1 || stone == 2 || stone == 3 ? 1 : 0;
            Due.due("sees(0, " + stone + ")", x.sees(0, stone), seen);
            Due.due("sees(1, " + stone + ")", x.sees(1, stone), stone == 0 ? 0 : 1);
        }
        Due.due("sees(2, 0)", x.sees(2, 0), NONE);
        Due.due("sees(-1, 0)", x.sees(-1, 0), NONE);
        Due.due("sees(0, 24)", x.sees(0, 24), NONE);
        Due.due("sees(0, -1)", x.sees(0, -1), NONE);
        Due.due("sees(0, MAX)", x.sees(0, Integer.MAX_VALUE), NONE);
        Due.due("sees(MIN, 0)", x.sees(Integer.MIN_VALUE, 0), NONE);
    }

    private static void promise12Watched() {
        FortressWatch x = Due.wall("p1<2>2;p3<1>1;p2<0>0;m0;m1");
        int[] many = {1, 1, 2, 2, 1};
        for (int stone = 0; stone < many.length; stone++) {
            Due.due("watched(" + stone + ")", x.watched(stone), many[stone]);
        }
        Due.due("watched(23)", x.watched(23), 1);
        Due.due("watched(22)", x.watched(22), 0);
        x.man(2, 1);
        Due.due("watched(2) with one more", x.watched(2), 3);
        Due.due("watched(24)", x.watched(24), NONE);
        Due.due("watched(-1)", x.watched(-1), NONE);
        Due.due("watched(MIN)", x.watched(Integer.MIN_VALUE), NONE);
    }

    private static void promise13SeenBy() {
        FortressWatch x = Due.wall("p1<2>2;p3<1>1;p2<0>0;m1");
        Due.due("seenBy(2)", x.seenBy(2), 7);
        Due.due("seenBy(4)", x.seenBy(4), 2);
        Due.due("seenBy(23)", x.seenBy(23), 1);
        Due.due("seenBy(22)", x.seenBy(22), 0);
        Due.due("seenBy(24)", x.seenBy(24), NONE);
        Due.due("seenBy(-1)", x.seenBy(-1), NONE);
        x = Due.wall("p0<11>11;p1<11>11;p2<11>11;p3<11>11;p4<11>11;p5<11>11;p6<11>11;p7<11>11;p8<11>11");
        Due.due("seenBy(4) of nine", x.seenBy(4), 511);
        Due.due("seenBy(20) of nine", x.seenBy(20), 254 + 1);
    }

    private static void promise14GapOf() {
        FortressWatch x = Due.wall("p3<1>1;p10<0>0;p12<0>0");
        Due.due("the whole ring's first", x.gapOf(0, 0), 0);
        Due.due("the whole ring's length", x.gapOf(0, 1), 24);
        Due.due("who sees the most of the ring", x.gapOf(0, 2), 0);
        Due.due("gapOf(1, 0)", x.gapOf(1, 0), NONE);
        x.man(0, 1);
        x.man(1, 1);
        x.man(2, 1);
        int[][] due = {{5, 5}, {11, 1}, {13, 13}};
        for (int gap = 0; gap < 3; gap++) {
            Due.due("gapOf(" + gap + ", 0)", x.gapOf(gap, 0), due[gap][0]);
            Due.due("gapOf(" + gap + ", 1)", x.gapOf(gap, 1), due[gap][1]);
            Due.due("gapOf(" + gap + ", 2)", x.gapOf(gap, 2), NOTHING);
        }
        Due.due("gapOf(3, 0)", x.gapOf(3, 0), NONE);
        Due.due("gapOf(3, 3)", x.gapOf(3, 3), NONE);
        Due.due("gapOf(-1, 0)", x.gapOf(-1, 0), NONE);
        Due.due("gapOf(MIN, 0)", x.gapOf(Integer.MIN_VALUE, 0), NONE);
        Due.due("gapOf(0, 3)", x.gapOf(0, 3), BAD);
        Due.due("gapOf(0, -1)", x.gapOf(0, -1), BAD);
    }

    private static void promise14GapsRoundTheRing() {
        FortressWatch x = Due.wall("p0<0>0;p23<0>0;m0;m1");
        Due.due("the stone 0 is watched: first", x.gapOf(0, 0), 1);
        Due.due("the stone 0 is watched: length", x.gapOf(0, 1), 22);
        x = Due.wall("p0<0>0;m0");
        Due.due("all but the stone 0: first", x.gapOf(0, 0), 1);
        Due.due("all but the stone 0: length", x.gapOf(0, 1), 23);
        x = Due.wall("p1<0>0;m0");
        Due.due("all but the stone 1: first", x.gapOf(0, 0), 2);
        Due.due("all but the stone 1: length", x.gapOf(0, 1), 23);
        x = Due.wall("p23<0>0;p12<0>0;m0;m1");
        Due.due("a gap from the stone 0 on", x.gapOf(0, 0), 0);
        Due.due("a gap from the stone 0 on: length", x.gapOf(0, 1), 12);
        Due.due("the second gap", x.gapOf(1, 0), 13);
        x = Due.wall("p12<11>11;p0<0>0;m0");
        Due.due("a gap of one stone", x.gapOf(0, 0) * 100 + x.gapOf(0, 1), 1);
        x.man(1, 1);
        Due.due("no gap", x.gapOf(0, 0), NONE);
        Due.due("no gaps are told", x.account(4), 0);
    }

    private static void promise14MostGaps() {
        FortressWatch x = new FortressWatch();
        for (int post = 0; post < 6; post++) {
            int stone = 1 + 4 * post;
            Due.due("post(" + stone + ", 1, 1)", x.post(stone, 1, 1), post);
            Due.due("blind(" + post + ", " + stone + ", 1)", x.blind(post, stone, 1), 2);
            Due.due("man(" + post + ", 1)", x.man(post, 1), 2 + 2 * post);
        }
        for (int gap = 0; gap < 12; gap++) {
            Due.due("gapOf(" + gap + ", 0) of twelve", x.gapOf(gap, 0), 1 + 2 * gap);
            Due.due("gapOf(" + gap + ", 1) of twelve", x.gapOf(gap, 1), 1);
        }
        Due.due("gapOf(12, 0)", x.gapOf(12, 0), NONE);
        Due.due("the gaps", x.account(4), 12);
        Due.due("the longest", x.account(5), 1);
        Due.due("isWell() with twelve gaps", x.isWell(), 1);
    }

    private static void promise14PostForAGap() {
        FortressWatch x = Due.wall("p0<5>5;p6<1>1;p8<1>1;p7<3>0;p20<0>0;m0");
        // The gap reaches from 6 to 18: the posts 1, 2 and 3 see 2, 3 and 2 stones of it.
        Due.due("the post for the gap", x.gapOf(0, 2), 2);
        x.reach(1, 0, 2);
        Due.due("of several the lowest", x.gapOf(0, 2), 1);
        x.hour(11);
        Due.due("by the light", x.gapOf(0, 0) * 100 + x.gapOf(0, 1), 319);
        Due.due("the post for it by the light", x.gapOf(0, 2), 1);
        x.blind(1, 6, 1);
        Due.due("the post for it by its blind angle", x.gapOf(0, 2), 2);
    }
}
