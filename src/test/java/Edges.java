/** What the tests of the edges share. */
final class Edges {
    static final int NONE = FortressWatch.NONE;
    static final int BAD = FortressWatch.BAD;
    static final int REFUSED = FortressWatch.REFUSED;
    static final int NOTHING = FortressWatch.NOTHING;

    /** Posts on the stones 0 to 7, or to 8, that see just these. */
    static final String EIGHT = "p0<0>0;p1<0>0;p2<0>0;p3<0>0;p4<0>0;p5<0>0;p6<0>0;p7<0>0";
    static final String NINE = EIGHT + ";p8<0>0";
    /** Posts on the stones 0 to 8 that see all stones but one: 12 to 20. */
    static final String NINE_FAR = NINE.replace("<0>0", "<11>11");
    static final String ALL_MANNED = ";m0;m1;m2;m3;m4;m5;m6;m7;m8";

    interface Call {
        int on(FortressWatch x);
    }

    interface NumberCall {
        int on(FortressWatch x, int number);
    }

    private Edges() {
    }

    /** Numbers that are not from low to high: those just beside them, and the farthest. */
    static int[] outside(int low, int high) {
        return new int[] {low - 1, high + 1, Integer.MIN_VALUE, Integer.MAX_VALUE};
    }

    /** A call answers its error for each number outside the range, and none at its two ends. */
    static void range(String what, FortressWatch x, int low, int high, int error, NumberCall call) {
        for (int number : outside(low, high)) {
            Due.due(what + " of " + number, call.on(x, number), error);
        }
        Due.due(what + " of " + low + " is an error", call.on(x, low) == error ? 1 : 0, 0);
        Due.due(what + " of " + high + " is an error", call.on(x, high) == error ? 1 : 0, 0);
    }

    /** The stones that a post sees, as bits. */
    static int sight(FortressWatch x, int post) {
        int stones = 0;
        for (int stone = 0; stone < 24; stone++) {
            stones |= x.sees(post, stone) << stone;
        }
        return stones;
    }

    /** Stones as bits, from one to another to the right, round the ring. */
    static int stones(int from, int to) {
        int stones = 1 << to;
        for (int stone = from; stone != to; stone = stone == 23 ? 0 : stone + 1) {
            stones |= 1 << stone;
        }
        return stones;
    }

    /** The posts that are manned, as bits. */
    static int manned(FortressWatch x) {
        int set = 0;
        for (int post = 0; post < x.account(0); post++) {
            set |= x.postOf(post, 5) << post;
        }
        return set;
    }

    /** All gaps as "first+length". */
    static String gaps(FortressWatch x) {
        StringBuilder gaps = new StringBuilder();
        for (int gap = 0; gap < 25 && x.gapOf(gap, 0) != NONE; gap++) {
            gaps.append(x.gapOf(gap, 0)).append('+').append(x.gapOf(gap, 1)).append(' ');
        }
        return gaps.toString().trim();
    }

    /** What changes can change, without a call that writes a line. */
    static String wall(FortressWatch x) {
        StringBuilder told = new StringBuilder();
        int posts = x.account(0);
        for (int post = 0; post < posts; post++) {
            for (int what = 0; what <= 5; what++) {
                told.append(x.postOf(post, what)).append(' ');
            }
            told.append("/ ");
        }
        for (int what = 7; what <= 10; what++) {
            told.append(x.account(what)).append(' ');
        }
        return told.toString();
    }
}
