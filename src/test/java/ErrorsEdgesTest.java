import java.util.function.Supplier;

/** The document's section on errors, call by call: each is made on one of two walls that are alike. */
public final class ErrorsEdgesTest {
    private static final int NONE = FortressWatch.NONE;
    private static final int BAD = FortressWatch.BAD;
    private static final int REFUSED = FortressWatch.REFUSED;
    private static final int NOTHING = FortressWatch.NOTHING;
    private static final String UNCHANGED = "A call that returns an error code leaves the state unchanged";
    private static final String ANSWERS = "Returns a number, and changes nothing";

    public static void main(String[] args) {
        posts();
        ninePosts();
        seen();
        watches();
        withoutPosts();
        lines();
        texts();
        snapshot();
        answersAlone();
        Due.end();
    }

    /** A wall with a snapshot, changes, a line, a text, and something that was refused. */
    private static FortressWatch busy() {
        FortressWatch x = Due.wall("p0<4>4;p8<4>4;p12<0>0;b1!9+1;m1");
        x.save();
        x.tear(2);
        x.hour(7);
        x.blind(0, 3, 1);
        x.describe(1);
        x.hour(7);
        Due.append(x, "h5");
        return x;
    }

    private static FortressWatch nine() {
        FortressWatch x = Due.wall(Edges.NINE_FAR);
        x.save();
        // The posts built are forgotten, for an object answers for 512 calls, and each undo is looked at.
        x.restore();
        x.watch();
        Due.append(x, "h5");
        return x;
    }

    private static FortressWatch empty() {
        FortressWatch x = Due.wall("p3<1>1;-0");
        x.save();
        return x;
    }

    /** What the two tell each must be the same: now, after each undo, after restore, and by their texts. */
    private static void alike(String what, FortressWatch x, FortressWatch y) {
        Due.due(what + ": the wall", Edges.wall(x), Edges.wall(y));
        Due.due(what + ": the line", Due.line(x), Due.line(y));
        Due.due(what + ": the text", x.account(11), y.account(11));
        int left = y.account(12);
        Due.due(what + ": the changes", x.account(12), left);
        for (int n = left; n >= 0; n--) {
            Due.due(what + ": undo()", x.undo(), y.undo());
            Due.due(what + ": the wall undone", Edges.wall(x), Edges.wall(y));
        }
        Due.due(what + ": restore()", x.restore(), y.restore());
        Due.due(what + ": the wall restored", Edges.wall(x), Edges.wall(y));
        Due.due(what + ": read()", x.read(), y.read());
        Due.due(what + ": the wall read", Edges.wall(x), Edges.wall(y));
    }

    private static void leaves(int promise, String words, Supplier<FortressWatch> start, int due, Edges.Call call) {
        Due.sentence(promise, words);
        FortressWatch x = start.get();
        FortressWatch y = start.get();
        int answer = call.on(x);
        Due.due("the call", answer, due);
        if (answer == REFUSED) {
            Due.due("a reason is kept", x.refusal(0) >= 1 && x.refusal(0) <= 5 ? 1 : 0, 1);
        } else {
            Due.refused("the reasons stay", x, y.refusal(0), y.refusal(1), y.refusal(2));
        }
        alike("after the call", x, y);
    }

    private static void error(int promise, int due, Edges.Call call) {
        leaves(promise, UNCHANGED, ErrorsEdgesTest::busy, due, call);
    }

    private static void posts() {
        error(2, NONE, x -> x.post(24, 1, 1));
        error(2, NONE, x -> x.post(-1, 12, 1));
        error(2, BAD, x -> x.post(20, 12, 1));
        error(2, BAD, x -> x.post(20, 1, -1));
        error(2, REFUSED, x -> x.post(8, 1, 1));
        error(3, NONE, x -> x.tear(2));
        error(3, NONE, x -> x.tear(-1));
        error(4, NONE, x -> x.reach(2, 1, 1));
        error(4, BAD, x -> x.reach(0, 12, 1));
        error(4, BAD, x -> x.reach(0, 1, -1));
        error(4, REFUSED, x -> x.reach(0, 4, 4));
        error(5, NONE, x -> x.blind(2, 1, 1));
        error(5, NONE, x -> x.blind(0, 24, 1));
        error(5, BAD, x -> x.blind(0, 1, 0));
        error(5, BAD, x -> x.blind(0, 1, 9));
        error(5, REFUSED, x -> x.blind(0, 3, 1));
        error(6, NONE, x -> x.see(2));
        error(7, NONE, x -> x.man(2, 1));
        error(7, BAD, x -> x.man(0, 2));
        error(7, REFUSED, x -> x.man(0, 0));
        error(7, REFUSED, x -> x.man(1, 1));
        error(8, BAD, x -> x.hour(12));
        error(8, BAD, x -> x.hour(-1));
        error(8, REFUSED, x -> x.hour(7));
        error(9, REFUSED, FortressWatch::watch);
    }

    private static void ninePosts() {
        leaves(2, UNCHANGED, ErrorsEdgesTest::nine, REFUSED, x -> x.post(20, 1, 1));
        leaves(2, UNCHANGED, ErrorsEdgesTest::nine, REFUSED, x -> x.post(8, 1, 1));
        leaves(3, UNCHANGED, ErrorsEdgesTest::nine, NONE, x -> x.tear(9));
        leaves(6, UNCHANGED, ErrorsEdgesTest::nine, REFUSED, x -> x.see(8));
        leaves(7, UNCHANGED, ErrorsEdgesTest::nine, NONE, x -> x.man(9, 0));
    }

    private static void seen() {
        error(10, NONE, x -> x.postOf(2, 0));
        error(10, BAD, x -> x.postOf(0, 9));
        error(11, NONE, x -> x.sees(2, 0));
        error(11, NONE, x -> x.sees(0, 24));
        error(12, NONE, x -> x.watched(24));
        error(13, NONE, x -> x.seenBy(-1));
        error(14, NONE, x -> x.gapOf(3, 0));
        error(14, BAD, x -> x.gapOf(0, 3));
    }

    private static void watches() {
        error(15, NOTHING, FortressWatch::fewest);
        error(16, NOTHING, FortressWatch::fewestAgain);
        error(18, NONE, x -> x.isFull(4));
        error(18, NONE, x -> x.isFull(-1));
        error(22, BAD, x -> x.wouldNeed(12));
        error(22, NOTHING, x -> x.wouldNeed(0));
        error(23, BAD, x -> x.wouldTurn(24));
        error(24, BAD, x -> x.ranked(3, 0));
        error(24, NONE, x -> x.ranked(0, 2));
    }

    private static void withoutPosts() {
        leaves(3, UNCHANGED, ErrorsEdgesTest::empty, NONE, x -> x.tear(0));
        leaves(9, UNCHANGED, ErrorsEdgesTest::empty, REFUSED, FortressWatch::watch);
        leaves(14, UNCHANGED, ErrorsEdgesTest::empty, NOTHING, x -> x.gapOf(0, 2));
        leaves(20, UNCHANGED, ErrorsEdgesTest::empty, NOTHING, FortressWatch::next);
        leaves(30, UNCHANGED, ErrorsEdgesTest::empty, NOTHING, x -> x.refusal(0));
        leaves(29, UNCHANGED, ErrorsEdgesTest::empty, -100, FortressWatch::read);
    }

    private static void lines() {
        error(25, NONE, x -> x.describe(2));
        error(27, NONE, x -> x.sign(30));
        error(28, BAD, x -> x.append(31));
        error(28, BAD, x -> x.append(127));
        leaves(28, UNCHANGED, () -> {
            FortressWatch x = Due.wall("p0<11>11;p12<11>11");
            Due.append(x, "w;".repeat(34) + "h3");
            return x;
        }, BAD, x -> x.append('1'));
        error(30, BAD, x -> x.refusal(3));
        error(31, BAD, x -> x.account(13));
    }

    /** Both read a text: of the one nothing but its reasons and the text is left, of the other just the text. */
    private static void texts() {
        String words = UNCHANGED + ", except that read empties the text, and that reasons are kept";
        String[] wrong = {"", "?", "h5?", "h5;?", "h5;", "h5;h", "h5;m0;l1;-0;", "-0;-0;-0;-"};
        int[] faults = {0, 0, 2, 3, 3, 4, 12, 10};
        for (int n = 0; n < wrong.length; n++) {
            String text = wrong[n];
            leaves(29, words, ErrorsEdgesTest::busyWithoutText, -100 - faults[n], x -> Due.read(x, text));
        }
        String[] refused = {"h7", "h5;h5", "-0;h5;-0;w", "m0;n0;n0", "p9<1>1;p9<1>1", "b0!3+2;b0!3+2", "l1;m1;m1"};
        for (String text : refused) {
            leaves(29, words, ErrorsEdgesTest::busyWithoutText, REFUSED, x -> Due.read(x, text));
        }
        String[] bad = {"h12", "h5;m2", "-0;-0;-0", "n0;b0!24+1", "l1;m0;r1<12>0", "p9<9>12"};
        for (String text : bad) {
            leaves(29, words, ErrorsEdgesTest::busyWithoutText, BAD, x -> Due.read(x, text));
        }
    }

    private static FortressWatch busyWithoutText() {
        FortressWatch x = busy();
        Due.due("the test's own text", x.read(), 1);
        x.hour(7);
        return x;
    }

    private static void snapshot() {
        leaves(34, UNCHANGED, () -> {
            FortressWatch x = busy();
            x.restore();
            return x;
        }, NOTHING, FortressWatch::undo);
        leaves(36, UNCHANGED, () -> Due.wall("p0<4>4;m0;h3"), NOTHING, FortressWatch::restore);
    }

    /** The calls that tell something, and change neither wall, line, text, reasons, undo nor snapshot. */
    private static void answersAlone() {
        leaves(10, ANSWERS, ErrorsEdgesTest::nine, 0, x -> x.postOf(8, 8));
        leaves(10, ANSWERS, ErrorsEdgesTest::busy, 6, x -> x.postOf(0, 6));
        leaves(11, ANSWERS, ErrorsEdgesTest::busy, 1, x -> x.sees(1, 8));
        leaves(12, ANSWERS, ErrorsEdgesTest::busy, 1, x -> x.watched(8));
        leaves(13, ANSWERS, ErrorsEdgesTest::busy, 2, x -> x.seenBy(8));
        leaves(14, ANSWERS, ErrorsEdgesTest::busy, 0, x -> x.gapOf(1, 2));
        leaves(15, ANSWERS, ErrorsEdgesTest::nine, 3, FortressWatch::fewest);
        leaves(16, ANSWERS, ErrorsEdgesTest::nine, 3, FortressWatch::fewestAgain);
        leaves(17, ANSWERS, ErrorsEdgesTest::nine, 36, FortressWatch::watches);
        leaves(18, ANSWERS, ErrorsEdgesTest::nine, 1, x -> x.isFull(511));
        leaves(19, ANSWERS, ErrorsEdgesTest::nine, 0, FortressWatch::spare);
        leaves(20, ANSWERS, ErrorsEdgesTest::busy, 0, FortressWatch::next);
        leaves(21, ANSWERS, ErrorsEdgesTest::busy, 2, FortressWatch::greedy);
        leaves(22, ANSWERS, ErrorsEdgesTest::nine, 2, x -> x.wouldNeed(11));
        leaves(23, ANSWERS, ErrorsEdgesTest::busy, 6, x -> x.wouldTurn(9));
        leaves(24, ANSWERS, ErrorsEdgesTest::nine, 5, x -> x.ranked(0, 5));
        leaves(27, ANSWERS, ErrorsEdgesTest::busy, '@', x -> x.sign(1));
        leaves(30, ANSWERS, ErrorsEdgesTest::busy, 3, x -> x.refusal(0));
        for (int what = 0; what <= 12; what++) {
            int its = what;
            leaves(31, ANSWERS, ErrorsEdgesTest::busy, busy().account(its), x -> x.account(its));
        }
        leaves(32, ANSWERS, ErrorsEdgesTest::nine, 1, FortressWatch::isWell);
        leaves(33, ANSWERS, ErrorsEdgesTest::busy, Float.floatToIntBits(0.25f), FortressWatch::mean);
    }
}
