/** Promises 31 to 36, sentence by sentence, at the edges that the document names. */
public final class AccountsEdgesTest {
    private static final int BAD = FortressWatch.BAD;
    private static final int REFUSED = FortressWatch.REFUSED;
    private static final int NOTHING = FortressWatch.NOTHING;
    private static final String[] CHANGE = {"post", "tear", "reach", "blind", "see", "man", "hour", "watch", "read"};
    /** A wall on which each of the changes succeeds, and the changes. */
    private static final String START = "p0<11>11;p12<1>1;b1!13+1;p6<2>2;m2";
    private static final Edges.Call[] CHANGES = {x -> x.post(5, 1, 1), x -> x.tear(1), x -> x.reach(1, 0, 5),
        x -> x.blind(1, 20, 8), x -> x.see(1), x -> x.man(2, 0), x -> x.hour(4), FortressWatch::watch,
        x -> Due.read(x, "-0;m0;h9;p5<1>1;b1!0+1")};

    public static void main(String[] args) {
        promise31Posts();
        promise31Manned();
        promise31Watched();
        promise31Overlaps();
        promise31Gaps();
        promise31LongestGap();
        promise31SeenByNone();
        promise31Hour();
        promise31BuiltAndTorn();
        promise31WatchesManned();
        promise31Text();
        promise31Changes();
        promise31NoSuchWhat();
        promise32FullWatch();
        promise32NoFullWatch();
        promise32Gaps();
        promise33None();
        promise33SumByStones();
        promise33Bits();
        promise34EachChange();
        promise34NoChange();
        promise34LatestFirst();
        promise34AtMostEight();
        promise34StillUndone();
        promise34Nothing();
        promise34NewChange();
        promise35Posts();
        promise35InPlace();
        promise35WhatChangesCanChange();
        promise35NoChange();
        promise36Posts();
        promise36Restores();
        promise36Stays();
        promise36NothingUndoneThen();
        promise36Nothing();
        Due.end();
    }

    /** One account of a wall, call by call of a text. */
    private static void account(FortressWatch x, int what, String text, int... due) {
        String[] commands = text.split(";");
        for (int n = 0; n < commands.length; n++) {
            Due.due(commands[n], Due.read(x, commands[n]), 1);
            Due.due("account(" + what + ") after " + commands[n], x.account(what), due[n]);
        }
    }

    private static void promise31Posts() {
        Due.sentence(31, "0 the posts");
        FortressWatch x = new FortressWatch();
        Due.due("account(0) of none", x.account(0), 0);
        account(x, 0, Edges.NINE + ";-8;-0", 1, 2, 3, 4, 5, 6, 7, 8, 9, 8, 7);
        Due.due("a taken stone", x.post(1, 1, 1), REFUSED);
        Due.due("account(0) then", x.account(0), 7);
    }

    private static void promise31Manned() {
        Due.sentence(31, "1 those that are manned");
        FortressWatch x = Due.wall(Edges.NINE);
        account(x, 1, "m8;m0;m1;m2;m3;m4;m5;m6;m7;l0;h11;-0;-7", 1, 2, 3, 4, 5, 6, 7, 8, 9, 8, 8, 8, 7);
        x = Due.wall("p0<11>11;p12<0>0;p6<0>0;m2;w");
        Due.due("account(1) of a watch", x.account(1), 2);
    }

    private static void promise31Watched() {
        Due.sentence(31, "2 the stones that are watched");
        FortressWatch x = Due.wall("p0<11>11;p12<1>1;p6<2>2");
        Due.due("account(2) of none manned", x.account(2), 0);
        account(x, 2, "m2;m0;m1;b0!0+1;l2;h10;n0;-0", 5, 23, 24, 23, 23, 17, 18, 1);
    }

    private static void promise31Overlaps() {
        Due.sentence(31, "3 the overlaps: stones seen by several manned posts");
        FortressWatch x = Due.wall("p5<1>1;p7<1>1;p6<2>2;p20<0>0;p21<1>0;p0<5>5");
        Due.due("account(3) of none manned", x.account(3), 0);
        account(x, 3, "m0;m3;m1;m2;m4;m5;l0;b2!6+2;h6;l5", 0, 0, 1, 5, 6, 7, 7, 5, 2, 0);
        x = Due.wall(Edges.NINE_FAR + ";m0;m1");
        Due.due("account(3) of two", x.account(3), 22);
        x.man(8, 1);
        Due.due("account(3) of three", x.account(3), 24);
    }

    private static void promise31Gaps() {
        Due.sentence(31, "4 the gaps");
        FortressWatch x = Due.wall("p0<0>0;p23<0>0;p2<0>0;p12<11>11;p13<1>1");
        Due.due("account(4) of none manned", x.account(4), 1);
        account(x, 4, "m0;m2;m1;m4;m3;b3!5+3;h11", 1, 2, 2, 3, 0, 1, 4);
    }

    private static void promise31LongestGap() {
        Due.sentence(31, "5 the longest gap, 0 without one");
        FortressWatch x = Due.wall("p0<0>0;p23<0>0;p2<0>0;p12<11>11;p13<1>1");
        Due.due("account(5) of none manned", x.account(5), 24);
        account(x, 5, "m0;m2;m1;m4;m3;b3!5+3;h11", 23, 21, 20, 9, 0, 3, 3);
        x = Due.wall("p20<1>3;m0;p10<2>2;m1");
        Due.due("the longest of two, round the ring", x.account(5), 8);
        x.reach(1, 1, 2);
        Due.due("the first of two", x.account(5), 9);
        x.reach(1, 4, 0);
        Due.due("the second of two", x.account(5), 8);
        Due.due("without a gap", Due.wall("p0<11>11;p12<0>0;w").account(5), 0);
    }

    private static void promise31SeenByNone() {
        Due.sentence(31, "6 the stones that no post sees");
        FortressWatch x = new FortressWatch();
        Due.due("account(6) without posts", x.account(6), 24);
        account(x, 6, "p0<11>11;p12<0>0;b0!22+4;h10;m0;-0;-0", 1, 0, 4, 10, 10, 23, 24);
    }

    private static void promise31Hour() {
        Due.sentence(31, "7 the hour");
        FortressWatch x = new FortressWatch();
        Due.due("account(7) at first", x.account(7), 0);
        account(x, 7, "h11;h6;p0<0>0;h0", 11, 6, 6, 0);
        x.hour(12);
        Due.due("account(7) after an hour that is none", x.account(7), 0);
        x.wouldNeed(5);
        Due.due("account(7) after another hour was asked", x.account(7), 0);
    }

    private static void promise31BuiltAndTorn() {
        Due.sentence(31, "8 the posts built so far; 9 those torn down so far");
        FortressWatch x = new FortressWatch();
        for (int n = 1; n <= 20; n++) {
            x.post(5, 1, 1);
            x.post(5, 1, 1);
            Due.due("account(8)", x.account(8), n);
            Due.due("account(9)", x.account(9), n - 1);
            x.tear(0);
            x.tear(0);
            Due.due("account(9) then", x.account(9), n);
        }
        Due.due("a text of both", Due.read(x, "p1<1>1;p2<1>1;-1"), 3);
        Due.due("account(8) then", x.account(8), 22);
        Due.due("account(9) then", x.account(9), 21);
        Due.due("a text that fails", Due.read(x, "p3<1>1;-0;-5"), BAD);
        Due.due("account(8) still", x.account(8), 22);
        Due.due("account(9) still", x.account(9), 21);
        x.undo();
        Due.due("account(8) before the text", x.account(8), 20);
        Due.due("account(9) before the text", x.account(9), 20);
    }

    private static void promise31WatchesManned() {
        Due.sentence(31, "10 how often a watch was manned so far");
        FortressWatch x = new FortressWatch();
        Due.due("watch() without posts", x.watch(), REFUSED);
        Due.due("account(10)", x.account(10), 0);
        account(x, 10, "p0<11>11;m0;p12<0>0;m1;w;w;l0;w;-0;-0", 0, 0, 0, 0, 1, 2, 2, 3, 3, 3);
        x.undo();
        x.undo();
        x.undo();
        Due.due("account(10) before the third", x.account(10), 2);
    }

    private static void promise31Text() {
        Due.sentence(31, "11 the characters of the text");
        FortressWatch x = new FortressWatch();
        for (int n = 0; n < 70; n++) {
            Due.due("account(11)", x.account(11), n);
            x.append(32 + n);
        }
        Due.due("account(11) of a full text", x.account(11), 70);
        x.append('w');
        Due.due("account(11) of a full text still", x.account(11), 70);
        x.read();
        Due.due("account(11) after read", x.account(11), 0);
    }

    private static void promise31Changes() {
        Due.sentence(31, "12 the changes that can be undone");
        FortressWatch x = new FortressWatch();
        for (int n = 1; n <= 10; n++) {
            x.hour(n);
            Due.due("account(12) after " + n, x.account(12), Math.min(8, n));
        }
        x.undo();
        Due.due("account(12) after undo", x.account(12), 7);
        x.save();
        Due.due("account(12) after save", x.account(12), 7);
        x.restore();
        Due.due("account(12) after restore", x.account(12), 0);
    }

    private static void promise31NoSuchWhat() {
        Due.sentence(31, "BAD if there is no such what");
        Edges.range("the account", new FortressWatch(), 0, 12, BAD, FortressWatch::account);
        Edges.range("the account", Due.wall(START), 0, 12, BAD, FortressWatch::account);
    }

    private static void promise32FullWatch() {
        Due.sentence(32, "whether the fewest watch is told alike by both ways and is full");
        String[] walls = {"p0<11>11;p12<0>0", "p0<11>11;p12<0>0;w", "p0<4>3;p8<4>3;p16<4>3;m1",
            "p0<5>6;p1<5>6;p12<5>6;p13<5>6", "p12<5>6;p1<5>6;p0<5>6;p13<5>6;h3",
            Edges.NINE_FAR, Edges.NINE_FAR + ";h11",
            "p0<0>2;p3<0>2;p6<0>2;p9<0>2;p12<0>2;p15<0>2;p18<0>2;p21<0>0;p23<1>0;w"};
        for (String wall : walls) {
            FortressWatch x = Due.wall(wall);
            Due.due("fewestAgain() of " + wall, x.fewestAgain(), x.fewest());
            Due.due("isFull() of " + wall, x.isFull(x.fewest()), 1);
            Due.due("isWell() of " + wall, x.isWell(), 1);
        }
    }

    private static void promise32NoFullWatch() {
        Due.sentence(32, "if there is one");
        Due.due("isWell() without posts", new FortressWatch().isWell(), 1);
        Due.due("isWell() of one", Due.wall("p0<11>11").isWell(), 1);
        Due.due("isWell() of one that is manned", Due.wall("p0<11>11;m0").isWell(), 1);
        Due.due("isWell() of nine", Due.wall(Edges.NINE + ";m5;h11").isWell(), 1);
    }

    private static void promise32Gaps() {
        Due.sentence(32, "the stones that are watched and those of all gaps are 24 together");
        String[] walls = {"p23<0>0;m0", "p0<0>0;m0", "p11<9>10;m0", "p0<11>11;p12<0>0;w",
            "p0<2>3;p9<1>1;p12<0>0;m0;m1;m2",
            "p0<1>1;p4<1>1;p8<1>1;p12<1>1;p16<1>1;p20<1>1;b0!0+1;b1!4+1;b2!8+1;b3!12+1;b4!16+1;b5!20+1;"
            + "m0;m1;m2;m3;m4;m5"};
        for (String wall : walls) {
            FortressWatch x = Due.wall(wall);
            int stones = x.account(2);
            for (int gap = 0; gap < x.account(4); gap++) {
                stones += x.gapOf(gap, 1);
            }
            Due.due("the stones of " + wall, stones, 24);
            Due.due("isWell() of " + wall, x.isWell(), 1);
        }
    }

    private static void promise33None() {
        Due.sentence(33, "the mean number of manned posts that see a stone: 0 of none");
        Due.due("without posts", new FortressWatch().mean(), 0);
        Due.due("with none manned", Due.wall("p0<11>11;p12<0>0").mean(), 0);
        Due.due("with one that sees none", Due.wall("p0<0>0;b0!0+1;m0").mean(), 0);
    }

    private static void promise33SumByStones() {
        Due.sentence(33, "the sum for all stones divided by 24, both converted to float");
        FortressWatch x = Due.wall("p3<0>0;p2<2>2;p12<11>11;m0");
        Due.due("1 / 24", x.mean(), Float.floatToIntBits(1f / 24f));
        x.man(1, 1);
        Due.due("6 / 24", x.mean(), Float.floatToIntBits(0.25f));
        x.man(2, 1);
        Due.due("29 / 24", x.mean(), Float.floatToIntBits(29f / 24f));
        x.blind(2, 3, 5);
        Due.due("24 / 24", x.mean(), Float.floatToIntBits(1f));
        x.man(0, 0);
        Due.due("23 / 24", x.mean(), Float.floatToIntBits(23f / 24f));
        x.hour(11);
        Due.due("14 / 24", x.mean(), Float.floatToIntBits(14f / 24f));
    }

    private static void promise33Bits() {
        Due.sentence(33, "Returns the bits, as by Float.floatToIntBits");
        for (int left = 0; left <= 11; left++) {
            FortressWatch x = Due.wall(Edges.NINE + Edges.ALL_MANNED);
            for (int post = 0; post < 9; post++) {
                x.reach(post, left, 0);
                Due.due("a sum", x.mean(), Float.floatToIntBits((float) (9 + (post + 1) * left) / (float) 24));
                x.reach(post, left, 11);
                Due.due("a sum", x.mean(), Float.floatToIntBits((float) (9 + (post + 1) * left + 11) / (float) 24));
                x.reach(post, left, 0);
            }
        }
        FortressWatch x = Due.wall(Edges.NINE_FAR + Edges.ALL_MANNED);
        Due.due("the most: 207 / 24", x.mean(), Float.floatToIntBits(8.625f));
    }

    private static void promise34EachChange() {
        Due.sentence(34, "The changes are the successful calls of post, tear, reach, blind, see, man, "
            + "hour, watch and read");
        for (int n = 0; n < CHANGES.length; n++) {
            FortressWatch x = Due.wall(START);
            String before = Edges.wall(x);
            Due.due(CHANGE[n] + " is an error", CHANGES[n].on(x) < 0 ? 1 : 0, 0);
            Due.due(CHANGE[n] + " leaves the wall", Edges.wall(x).equals(before) ? 1 : 0, 0);
            Due.due("account(12) after " + CHANGE[n], x.account(12), 6);
            Due.due("undo() of " + CHANGE[n], x.undo(), 5);
            Due.due("the wall before " + CHANGE[n], Edges.wall(x), before);
            Due.due("undo() of the command before", x.undo(), 4);
            Due.due("the last post was manned by it", x.postOf(2, 5), 0);
        }
    }

    private static void promise34NoChange() {
        Due.sentence(34, "The changes are the successful calls: no refused call, no other error, no other method");
        FortressWatch x = Due.wall("p0<11>11;p3<2>2");
        Edges.Call[] calls = {y -> y.post(0, 1, 1), y -> y.post(24, 1, 1), y -> y.tear(2), y -> y.reach(0, 11, 11),
            y -> y.reach(0, 12, 0), y -> y.blind(0, 24, 1), y -> y.blind(0, 1, 9), y -> y.see(0), y -> y.man(0, 0),
            y -> y.man(0, 2), y -> y.hour(0), y -> y.hour(12), FortressWatch::watch, y -> Due.read(y, "h1;h1"),
            y -> Due.read(y, "h1;h"), y -> Due.read(y, "h1;m7"), FortressWatch::save, FortressWatch::show,
            y -> y.describe(0), y -> y.append('h'), FortressWatch::greedy, FortressWatch::next, FortressWatch::spare,
            y -> y.wouldNeed(11), y -> y.wouldTurn(7), FortressWatch::isWell};
        for (int n = 0; n < calls.length; n++) {
            calls[n].on(x);
            Due.due("account(12) after the call " + n, x.account(12), 2);
        }
        Due.due("undo()", x.undo(), 1);
        Due.due("the second post is undone", x.account(0), 1);
    }

    private static void promise34LatestFirst() {
        Due.sentence(34, "Undoes the latest change");
        FortressWatch x = Due.wall("p0<11>11");
        Edges.Call[] calls = {y -> y.post(12, 3, 3), y -> y.man(0, 1), y -> y.blind(1, 9, 2), FortressWatch::watch,
            y -> y.hour(3), y -> y.see(1), y -> y.tear(0)};
        String[] walls = new String[calls.length];
        for (int n = 0; n < calls.length; n++) {
            walls[n] = Edges.wall(x);
            calls[n].on(x);
        }
        for (int n = calls.length - 1; n >= 0; n--) {
            Due.due("undo() of the change " + n, x.undo(), 1 + n);
            Due.due("the wall before the change " + n, Edges.wall(x), walls[n]);
        }
    }

    private static void promise34AtMostEight() {
        Due.sentence(34, "At most 8 of them can be undone, the latest first");
        for (int changes = 7; changes <= 20; changes++) {
            FortressWatch x = new FortressWatch();
            for (int n = 1; n <= changes; n++) {
                x.hour(n % 12);
            }
            int can = Math.min(8, changes);
            for (int n = 1; n <= can; n++) {
                Due.due("undo() " + n + " of " + changes, x.undo(), can - n);
                Due.due("the hour then", x.account(7), (changes - n) % 12);
            }
            Due.due("one more undo() of " + changes, x.undo(), NOTHING);
            Due.due("the hour stays", x.account(7), (changes - can) % 12);
        }
    }

    private static void promise34StillUndone() {
        Due.sentence(34, "Returns the changes that can still be undone");
        FortressWatch x = Due.wall("h1;h2;h3");
        Due.due("undo() of three", x.undo(), 2);
        Due.due("account(12)", x.account(12), 2);
        Due.due("undo() of two", x.undo(), 1);
        Due.due("undo() of one", x.undo(), 0);
        Due.due("account(12)", x.account(12), 0);
    }

    private static void promise34Nothing() {
        Due.sentence(34, "NOTHING if there is none");
        FortressWatch x = new FortressWatch();
        Due.due("undo() of a new object", x.undo(), NOTHING);
        x.hour(12);
        x.hour(0);
        Due.due("undo() after errors", x.undo(), NOTHING);
        x.hour(5);
        x.undo();
        Due.due("undo() after the only one", x.undo(), NOTHING);
        Due.due("the hour", x.account(7), 0);
        Due.due("account(12)", x.account(12), 0);
    }

    private static void promise34NewChange() {
        Due.sentence(34, "Undoes the latest change: also one that was made after an undo");
        FortressWatch x = Due.wall("h1;h2;h3;h4;h5;h6;h7;h8;h9");
        x.undo();
        x.undo();
        x.hour(11);
        Due.due("account(12)", x.account(12), 7);
        Due.due("undo()", x.undo(), 6);
        Due.due("the hour", x.account(7), 7);
        for (int hour = 6; hour >= 1; hour--) {
            Due.due("undo()", x.undo(), hour - 1);
            Due.due("the hour", x.account(7), hour);
        }
        Due.due("undo()", x.undo(), NOTHING);
    }

    private static void promise35Posts() {
        Due.sentence(35, "Saves a snapshot. Returns the posts");
        FortressWatch x = new FortressWatch();
        Due.due("save() of none", x.save(), 0);
        for (int post = 0; post < 9; post++) {
            x.post(2 * post, 1, 1);
            Due.due("save() of " + (post + 1), x.save(), post + 1);
        }
    }

    private static void promise35InPlace() {
        Due.sentence(35, "in place of an earlier one");
        FortressWatch x = Due.wall("p5<1>1;p9<1>1");
        x.save();
        x.tear(0);
        x.save();
        x.tear(0);
        Due.due("restore()", x.restore(), 1);
        Due.due("the post", x.postOf(0, 0), 9);
        x.tear(0);
        Due.due("save() of none", x.save(), 0);
        x.post(1, 1, 1);
        Due.due("restore() of none", x.restore(), 0);
    }

    private static void promise35WhatChangesCanChange() {
        Due.sentence(35, "The snapshot contains what changes can change");
        for (int n = 0; n < CHANGES.length; n++) {
            FortressWatch x = Due.wall(START);
            String before = Edges.wall(x);
            x.save();
            CHANGES[n].on(x);
            x.restore();
            Due.due("the wall before " + CHANGE[n], Edges.wall(x), before);
            CHANGES[n].on(x);
            String after = Edges.wall(x);
            x.save();
            x.undo();
            x.restore();
            Due.due("the wall after " + CHANGE[n], Edges.wall(x), after);
        }
    }

    private static void promise35NoChange() {
        Due.sentence(35, "Saves a snapshot: all else stays");
        FortressWatch x = Due.wall("p5<1>1;h4;m0");
        Due.append(x, "h5");
        x.describe(0);
        x.hour(4);
        String before = Edges.wall(x);
        x.save();
        Due.due("the wall", Edges.wall(x), before);
        Due.due("the text", x.account(11), 2);
        Due.due("the line", Due.line(x), "0@5<1>1*");
        Due.refused("the reasons", x, 3, 4, NOTHING);
        Due.due("undo()", x.undo(), 2);
        Due.due("the post is not manned", x.postOf(0, 5), 0);
    }

    private static void promise36Posts() {
        Due.sentence(36, "Restores the snapshot. Returns the posts");
        for (int posts = 0; posts <= 9; posts++) {
            FortressWatch x = new FortressWatch();
            for (int post = 0; post < posts; post++) {
                x.post(post, 1, 1);
            }
            x.save();
            x.post(20, 1, 1);
            x.tear(0);
            Due.due("restore() of " + posts, x.restore(), posts);
            Due.due("account(0) then", x.account(0), posts);
        }
    }

    private static void promise36Restores() {
        Due.sentence(36, "Restores the snapshot: the posts, the hour and what was done so far");
        FortressWatch x = Due.wall("p0<11>11;p12<1>1;b1!13+1;p6<2>2;m2;w;-2;h4");
        String saved = Edges.wall(x);
        x.save();
        Due.read(x, "n1;l0;l1;r0<0>0;-1;p12<5>5;h9;p3<1>1");
        Due.read(x, "r0<11>11;h0;w;-0;-0");
        Due.due("restore()", x.restore(), 2);
        Due.due("the wall", Edges.wall(x), saved);
        Due.due("the first post", Due.described(x, 0), "0@0<11>11*");
        Due.due("the second post", Due.described(x, 1), "1@12<1>1!13+1*");
        Due.due("the hour", x.account(7), 4);
        Due.due("built, torn down, manned", x.account(8) * 100 + x.account(9) * 10 + x.account(10), 311);
    }

    private static void promise36Stays() {
        Due.sentence(36, "Restores the snapshot, which stays");
        FortressWatch x = Due.wall("p5<1>1;b0!5+1;m0");
        x.save();
        String saved = Edges.wall(x);
        for (int n = 0; n < 3; n++) {
            x.tear(0);
            x.hour(n + 3);
            Due.due("restore()", x.restore(), 1);
            Due.due("the wall", Edges.wall(x), saved);
        }
        Due.due("restore() without a change", x.restore(), 1);
        x.see(0);
        x.undo();
        Due.due("the wall after a change and undo", Edges.wall(x), saved);
        x.see(0);
        x.man(0, 0);
        Due.due("restore()", x.restore(), 1);
        Due.due("the wall", Edges.wall(x), saved);
    }

    private static void promise36NothingUndoneThen() {
        Due.sentence(36, "Nothing can be undone then");
        FortressWatch x = Due.wall("h1;h2;h3;h4;h5;h6;h7;h8;h9");
        x.save();
        x.restore();
        Due.due("account(12)", x.account(12), 0);
        Due.due("undo()", x.undo(), NOTHING);
        Due.due("the hour", x.account(7), 9);
        x.hour(1);
        Due.due("account(12) after a change", x.account(12), 1);
        Due.due("undo() of it", x.undo(), 0);
        Due.due("the hour again", x.account(7), 9);
        Due.due("undo()", x.undo(), NOTHING);
        for (int hour = 0; hour <= 8; hour++) {
            x.hour(hour);
        }
        Due.due("account(12) after nine changes", x.account(12), 8);
    }

    private static void promise36Nothing() {
        Due.sentence(36, "NOTHING if there is no snapshot");
        FortressWatch x = Due.wall("p5<1>1;h3");
        Due.due("restore()", x.restore(), NOTHING);
        Due.due("the wall stays", Edges.wall(x), "5 1 1 -4 0 0 / 3 1 0 0 ");
        Due.due("what can be undone stays", x.undo(), 1);
        Due.due("restore() again", x.restore(), NOTHING);
        x.save();
        Due.due("restore() of a snapshot", x.restore(), 1);
    }
}
