/** Promises 15 to 24, sentence by sentence, at the edges that the document names. */
public final class WatchesEdgesTest {
    private static final int NONE = FortressWatch.NONE;
    private static final int BAD = FortressWatch.BAD;
    private static final int NOTHING = FortressWatch.NOTHING;
    /** Posts that share the ring in three, in two, and in nine parts. */
    private static final String THIRDS = "p0<4>3;p8<4>3;p16<4>3";
    private static final String HALVES = "p0<5>6;p1<5>6;p12<5>6;p13<5>6";
    private static final String NINTHS = "p0<0>2;p3<0>2;p6<0>2;p9<0>2;p12<0>2;p15<0>2;p18<0>2;p21<0>0;p23<1>0";

    public static void main(String[] args) {
        promise15Fewest();
        promise15Lowest();
        promise15Nothing();
        promise15AtTheHour();
        promise15MannedOrNot();
        promise15TornPosts();
        promise16Fewest();
        promise16Lowest();
        promise16Nothing();
        promise16AtTheHour();
        promise16WhatIsLeft();
        promise17HowMany();
        promise17NoFullWatch();
        promise18Full();
        promise18OfNine();
        promise18BelowZero();
        promise18PostsThatThereAreNot();
        promise18AtTheHour();
        promise19OneByOne();
        promise19TheHighest();
        promise19WatchedStones();
        promise19SeesNoStone();
        promise19MannedAlone();
        promise19NoneLeaves();
        promise20TheMost();
        promise20NotManned();
        promise20TheLowest();
        promise20Nothing();
        promise21TimeAndAgain();
        promise21FromThoseMannedNow();
        promise21TheLowest();
        promise21UntilNone();
        promise21NoneIsManned();
        promise22HowMany();
        promise22OutOfRange();
        promise22NoFullWatch();
        promise22HourStays();
        promise23HowMany();
        promise23RoundTheRing();
        promise23MannedAlone();
        promise23OutOfRange();
        promise23PostsStay();
        promise24BySeen();
        promise24ByStone();
        promise24ByAlone();
        promise24LowestOfSeveral();
        promise24NoSuchKind();
        promise24NoSuchPlace();
        promise24BadBeforeNone();
        Due.end();
    }

    private static void told(String what, String wall, int due, Edges.Call way) {
        Due.due(what, way.on(Due.wall(wall)), due);
    }

    private static void fewestPosts(Edges.Call way) {
        String seven = "p1<0>0;p2<0>0;p3<0>0;p4<0>0;p5<0>0;p6<0>0;p7<0>0";
        told("three of three", THIRDS, 7, way);
        told("two of five rather than three", THIRDS + ";p4<11>11;p17<0>0", 12, way);
        told("nine of nine", NINTHS, 511, way);
        told("the first and the ninth", "p0<11>11;" + seven + ";p12<0>0", 257, way);
        told("the last two of nine", seven + ";p0<11>11;p12<0>0", 384, way);
    }

    private static void lowestOfSeveral(Edges.Call way) {
        told("5 and 10 do", HALVES, 5, way);
        told("6 and 9 do, though 0 is in the other one", "p0<5>6;p1<5>6;p13<5>6;p12<5>6", 6, way);
        told("any two of nine do", Edges.NINE_FAR, 3, way);
        // For the second way: the stone 0 is seen by 1 and 2, the full sets with 1, as 7 and 10, are come to before 5.
        told("the lowest is the last one found", "p12<5>6;p1<5>6;p0<5>6;p13<5>6", 5, way);
    }

    private static void noFullWatch(Edges.Call way) {
        FortressWatch x = new FortressWatch();
        Due.due("without posts", way.on(x), NOTHING);
        x.post(0, 11, 11);
        Due.due("one stone is left", way.on(x), NOTHING);
        x.post(12, 0, 0);
        Due.due("no stone is left", way.on(x), 3);
        x.blind(0, 23, 1);
        Due.due("but for a blind angle", way.on(x), NOTHING);
        told("nine posts", Edges.NINE, NOTHING, way);
    }

    private static void atTheHour(Edges.Call way) {
        FortressWatch x = Due.wall("p0<6>6;p12<6>6;p6<6>6;p18<6>6");
        int[] due = {3, 3, 3, 3, 3, 3, 15, 15, 15, 15, 15, 15};
        for (int hour = 0; hour <= 11; hour++) {
            x.hour(hour);
            Due.due("in the hour " + hour, way.on(x), due[hour]);
        }
        x.reach(0, 4, 6);
        Due.due("a reach of two less", way.on(x), NOTHING);
    }

    private static void promise15Fewest() {
        Due.sentence(15, "A fewest watch is a full one with the fewest posts");
        fewestPosts(FortressWatch::fewest);
    }

    private static void promise15Lowest() {
        Due.sentence(15, "of several, the one told is the lowest as a number");
        lowestOfSeveral(FortressWatch::fewest);
    }

    private static void promise15Nothing() {
        Due.sentence(15, "NOTHING if there is no full watch");
        noFullWatch(FortressWatch::fewest);
    }

    private static void promise15AtTheHour() {
        Due.sentence(15, "It is full if each stone is seen by one of its posts, at the hour that it is");
        atTheHour(FortressWatch::fewest);
    }

    private static void promise15MannedOrNot() {
        Due.sentence(15, "A watch is a set of posts, manned or not");
        FortressWatch x = Due.wall(HALVES + ";m1;m3");
        Due.due("fewest()", x.fewest(), 5);
        Due.due("fewestAgain()", x.fewestAgain(), 5);
        Due.due("watches()", x.watches(), 2);
        Due.due("who is manned stays", Edges.manned(x), 10);
    }

    private static void promise15TornPosts() {
        Due.sentence(15, "A watch is a set of posts: of those that there are");
        FortressWatch x = Due.wall(THIRDS + ";p4<11>11;p17<0>0");
        Due.due("two of five", x.fewest(), 12);
        x.tear(3);
        Due.due("without one of the two: three of four", x.fewest(), 7);
        Due.due("by the second way", x.fewestAgain(), 7);
        Due.due("how many there are", x.watches(), 1);
        Due.due("how many posts it would have", x.wouldNeed(0), 3);
        Due.due("the first is needed", x.postOf(0, 8), 1);
        Due.due("whether all is well", x.isWell(), 1);
        x.undo();
        Due.due("with it again", x.fewest(), 12);
        x.tear(0);
        Due.due("the two with their numbers then", x.fewest(), 6);
        x.tear(1);
        Due.due("without the other one of the two", x.fewest(), NOTHING);
        Due.due("by the second way", x.fewestAgain(), NOTHING);
        Due.due("how many there are", x.watches(), 0);
    }

    private static void promise16Fewest() {
        Due.sentence(16, "Returns the same by a second way: the fewest posts");
        fewestPosts(FortressWatch::fewestAgain);
    }

    private static void promise16Lowest() {
        Due.sentence(16, "Returns the same by a second way: of several the lowest as a number");
        lowestOfSeveral(FortressWatch::fewestAgain);
    }

    private static void promise16Nothing() {
        Due.sentence(16, "NOTHING if there is no full watch");
        noFullWatch(FortressWatch::fewestAgain);
    }

    private static void promise16AtTheHour() {
        Due.sentence(16, "Returns the same by a second way: at the hour that it is");
        atTheHour(FortressWatch::fewestAgain);
    }

    private static void promise16WhatIsLeft() {
        Due.sentence(16, "for the stone that the fewest posts see one of these after the other, and so on "
            + "for what is left");
        // The stone 12 is seen by 0 alone, the stone 0 by 1 alone: 2 and 3 see the most, but are not wanted.
        FortressWatch x = Due.wall("p12<5>5;p0<6>6;p6<5>5;p18<5>5");
        Due.due("without the posts that see the most in the middle", x.fewestAgain(), 3);
        x.reach(0, 5, 4);
        Due.due("with one of them for the stone 17", x.fewestAgain(), 3 + 8);
        x.reach(1, 6, 5);
        Due.due("with both of them, for 6 and 17", x.fewestAgain(), 15);
        Due.due("the same by trying sets", x.fewest(), 15);
    }

    private static void promise17HowMany() {
        Due.sentence(17, "Returns how many fewest watches there are");
        Due.due("one of three", Due.wall(THIRDS).watches(), 1);
        Due.due("two", Due.wall(HALVES).watches(), 2);
        Due.due("one, though there are full ones with three", Due.wall(THIRDS + ";p4<11>11;p17<0>0").watches(), 1);
        Due.due("any two of nine", Due.wall(Edges.NINE_FAR).watches(), 36);
        Due.due("one of nine", Due.wall(NINTHS).watches(), 1);
        FortressWatch x = Due.wall("p0<11>11;p12<0>0;p11<1>1;p13<1>1");
        Due.due("the first and one of three", x.watches(), 3);
        x.hour(6);
        Due.due("by the light", x.watches(), 1);
    }

    private static void promise17NoFullWatch() {
        Due.sentence(17, "how many, 0 if there is no full watch");
        FortressWatch x = new FortressWatch();
        Due.due("without posts", x.watches(), 0);
        x.post(0, 11, 11);
        Due.due("with one", x.watches(), 0);
        Due.due("with nine", Due.wall(Edges.NINE).watches(), 0);
        x.post(12, 0, 0);
        Due.due("with a full one", x.watches(), 1);
        x.blind(1, 12, 1);
        Due.due("with none any more", x.watches(), 0);
    }

    private static void promise18Full() {
        Due.sentence(18, "1 if it is, otherwise 0");
        FortressWatch x = Due.wall("p12<0>0;p0<11>11;p13<1>1");
        int[] due = {0, 0, 0, 1, 0, 0, 1, 1};
        for (int set = 0; set < 8; set++) {
            Due.due("isFull(" + set + ")", x.isFull(set), due[set]);
        }
        x.man(1, 1);
        x.man(0, 1);
        Due.due("manned or not", x.isFull(6), 1);
        Due.due("manned or not", x.isFull(2), 0);
    }

    private static void promise18OfNine() {
        Due.sentence(18, "bit k for the post k");
        FortressWatch x = Due.wall(NINTHS);
        Due.due("isFull(511)", x.isFull(511), 1);
        for (int post = 0; post < 9; post++) {
            Due.due("isFull() without " + post, x.isFull(511 - (1 << post)), 0);
        }
        Due.due("isFull(0)", x.isFull(0), 0);
    }

    private static void promise18BelowZero() {
        Due.sentence(18, "NONE if the number is below 0");
        FortressWatch x = new FortressWatch();
        Due.due("isFull(-1) without posts", x.isFull(-1), NONE);
        Due.due("isFull(0) without posts", x.isFull(0), 0);
        x = Due.wall(NINTHS);
        Due.due("isFull(-1) of nine", x.isFull(-1), NONE);
        Due.due("isFull(-512) of nine", x.isFull(-512), NONE);
        Due.due("isFull(MIN) of nine", x.isFull(Integer.MIN_VALUE), NONE);
        Due.due("isFull(MIN + 511) of nine", x.isFull(Integer.MIN_VALUE + 511), NONE);
    }

    private static void promise18PostsThatThereAreNot() {
        Due.sentence(18, "NONE if the number has posts that there are not");
        for (int posts = 0; posts <= 9; posts++) {
            FortressWatch x = new FortressWatch();
            for (int post = 0; post < posts; post++) {
                x.post(post, 0, 0);
            }
            Due.due("all of " + posts, x.isFull((1 << posts) - 1), 0);
            Due.due("the one behind the last of " + posts, x.isFull(1 << posts), NONE);
            Due.due("all of " + posts + " and one far", x.isFull((1 << posts) - 1 + (1 << 30)), NONE);
            Due.due("MAX of " + posts, x.isFull(Integer.MAX_VALUE), NONE);
        }
        FortressWatch x = Due.wall(NINTHS);
        x.tear(8);
        Due.due("a torn one", x.isFull(511), NONE);
    }

    private static void promise18AtTheHour() {
        Due.sentence(18, "It is full if each stone is seen by one of its posts, at the hour that it is");
        FortressWatch x = Due.wall("p0<11>11;p12<2>2");
        for (int hour = 0; hour <= 11; hour++) {
            x.hour(hour);
            Due.due("isFull(3) in the hour " + hour, x.isFull(3), hour < 8 ? 1 : 0);
        }
    }

    private static void promise19OneByOne() {
        Due.sentence(19, "how many manned posts could leave, one by one, without a stone that is watched "
            + "being watched no more");
        FortressWatch x = Due.wall("p5<1>1;p6<1>1;m0;m1");
        Due.due("each alone sees a stone", x.spare(), 0);
        x.reach(0, 1, 2);
        Due.due("the second alone sees none", x.spare(), 1);
        x.reach(1, 2, 1);
        Due.due("each could leave, but not both", x.spare(), 1);
        x = Due.wall(Edges.NINE_FAR + Edges.ALL_MANNED);
        Due.due("all of nine but for two", x.spare(), 7);
    }

    private static void promise19TheHighest() {
        Due.sentence(19, "time and again the highest one that can");
        Due.due("the two highest leave", Due.wall("p5<1>2;p4<0>1;p6<0>1;m0;m1;m2").spare(), 2);
        Due.due("the highest alone leaves", Due.wall("p4<0>1;p6<0>1;p5<1>2;m0;m1;m2").spare(), 1);
        // The highest cannot leave, the one below it can; then the others must stay.
        Due.due("the highest that can", Due.wall("p4<0>1;p6<0>1;p5<1>2;p9<0>0;m0;m1;m2;m3").spare(), 1);
    }

    private static void promise19WatchedStones() {
        Due.sentence(19, "a stone that is watched: others do not keep anyone");
        FortressWatch x = Due.wall("p5<1>1;p6<0>0;m0;m1");
        Due.due("without a full watch", x.spare(), 1);
        x.hour(6);
        Due.due("by the light both must stay", x.spare(), 0);
        x.blind(1, 6, 1);
        Due.due("but for a blind angle", x.spare(), 1);
    }

    private static void promise19SeesNoStone() {
        Due.sentence(19, "A sentry whose post sees no stone can leave as well");
        FortressWatch x = Due.wall("p5<1>1;b0!4+3;m0");
        Due.due("the only one", x.spare(), 1);
        x.post(9, 1, 1);
        x.man(1, 1);
        Due.due("beside one that sees three", x.spare(), 1);
        x.blind(1, 8, 3);
        Due.due("both", x.spare(), 2);
        x = Due.wall(Edges.NINE + Edges.ALL_MANNED);
        for (int post = 0; post < 9; post++) {
            x.blind(post, 0, 8);
        }
        Due.due("eight of nine", x.spare(), 8);
        x.blind(8, 8, 1);
        Due.due("all nine", x.spare(), 9);
    }

    private static void promise19MannedAlone() {
        Due.sentence(19, "how many manned posts");
        Due.due("without posts", new FortressWatch().spare(), 0);
        FortressWatch x = Due.wall("p5<1>1;p6<3>3;p9<1>1;b2!8+3");
        Due.due("none is manned", x.spare(), 0);
        x.man(0, 1);
        Due.due("one that is not manned does not watch", x.spare(), 0);
        x.man(1, 1);
        Due.due("one that is", x.spare(), 1);
    }

    private static void promise19NoneLeaves() {
        Due.sentence(19, "could leave: none does");
        FortressWatch x = Due.wall("p5<1>1;p6<3>3;m0;m1");
        Due.due("spare()", x.spare(), 1);
        Due.due("spare() again", x.spare(), 1);
        Due.due("who is manned", Edges.manned(x), 3);
    }

    private static void promise20TheMost() {
        Due.sentence(20, "the post that is not manned and would watch the most stones that are not watched");
        FortressWatch x = Due.wall("p5<0>0;p10<3>3;p20<1>1;p12<4>4;p0<2>2");
        Due.due("nine stones", x.next(), 3);
        x.man(3, 1);
        // 1 would watch the stone 7 alone then, 4 five stones, 2 three.
        Due.due("five stones", x.next(), 4);
        x.man(4, 1);
        Due.due("three stones", x.next(), 2);
        x.man(2, 1);
        x.reach(1, 4, 0);
        Due.due("two stones", x.next(), 1);
        x.blind(1, 6, 1);
        Due.due("one each: but for a blind angle", x.next(), 0);
        x.hour(11);
        // By night 1 watches 9 and 10, as the post on 12 sees 11 to 13 alone.
        Due.due("by the light", x.next(), 1);
        x = Due.wall(Edges.EIGHT + ";p8<0>1");
        Due.due("the last of nine", x.next(), 8);
    }

    private static void promise20NotManned() {
        Due.sentence(20, "the post that is not manned");
        FortressWatch x = Due.wall("p5<3>3;p15<1>1;m0");
        Due.due("the other one", x.next(), 1);
        x.man(1, 1);
        Due.due("none is left", x.next(), NOTHING);
        x.man(0, 0);
        Due.due("one is not manned any more", x.next(), 0);
        Due.due("next() mans none", x.account(1), 1);
    }

    private static void promise20TheLowest() {
        Due.sentence(20, "of several the lowest");
        FortressWatch x = Due.wall("p20<0>0;p10<1>1;p5<1>1;p15<1>1");
        Due.due("of three", x.next(), 1);
        x.man(1, 1);
        Due.due("of two", x.next(), 2);
        Due.due("of nine", Due.wall(Edges.NINE).next(), 0);
        // They see three, five and four, but each three that are not watched.
        Due.due("of three who would watch three", Due.wall("p10<2>2;p2<1>1;p13<2>2;p18<3>0;p16<0>0;m0;m4").next(), 1);
    }

    private static void promise20Nothing() {
        Due.sentence(20, "NOTHING if none would watch any");
        Due.due("without posts", new FortressWatch().next(), NOTHING);
        FortressWatch x = Due.wall("p10<2>2;p11<1>1;p20<0>0;b2!20+1;m0");
        Due.due("one would watch what is watched, one sees none", x.next(), NOTHING);
        x.see(2);
        Due.due("a single stone", x.next(), 2);
        Due.due("a full watch", Due.wall("p0<11>11;p12<0>0;p5<3>3;w").next(), NOTHING);
        Due.due("all are manned", Due.wall("p0<1>1;p12<0>0;m0;m1").next(), NOTHING);
    }

    private static void promise21TimeAndAgain() {
        Due.sentence(21, "time and again the post that would watch the most is manned");
        // The fewest are two, 1 and 2; the one that would watch the most, 0, comes first, and both are wanted still.
        FortressWatch x = Due.wall("p0<8>8;p6<6>5;p18<6>5");
        Due.due("three, though two would do", x.greedy(), 3);
        Due.due("two would do", x.fewest(), 6);
        x.reach(0, 5, 5);
        Due.due("the two first", x.greedy(), 2);
        Due.due("all of nine", Due.wall(Edges.NINE).greedy(), 9);
        Due.due("two of nine", Due.wall(Edges.NINE_FAR).greedy(), 2);
    }

    private static void promise21FromThoseMannedNow() {
        Due.sentence(21, "from those manned now on");
        FortressWatch x = Due.wall("p0<8>8;p6<6>5;p18<6>5;p12<1>1;m3");
        Due.due("with one that is manned", x.greedy(), 4);
        x.man(3, 0);
        x.man(1, 1);
        Due.due("with one of the two", x.greedy(), 2);
        x.man(0, 1);
        x.man(2, 1);
        x.man(3, 1);
        Due.due("with all", x.greedy(), 4);
    }

    private static void promise21TheLowest() {
        Due.sentence(21, "the post that would watch the most, of several the lowest, as next tells it");
        // Each would watch seven stones. Behind the one on 6 the one on 12 closes the rest; behind that on 9 none does.
        FortressWatch x = Due.wall("p6<3>3;p9<3>3;p12<3>3");
        Due.due("the first one first", x.greedy(), 2);
        x = Due.wall("p9<3>3;p6<3>3;p12<3>3");
        Due.due("the middle one first", x.greedy(), 3);
    }

    private static void promise21UntilNone() {
        Due.sentence(21, "until none would watch any");
        Due.due("without posts", new FortressWatch().greedy(), 0);
        FortressWatch x = Due.wall("p6<3>3;p7<1>1;p20<0>0;b2!20+1");
        Due.due("one watches what another would, one sees none", x.greedy(), 1);
        x.see(2);
        Due.due("a single stone more", x.greedy(), 2);
        x.hour(10);
        Due.due("by the light", x.greedy(), 3);
    }

    private static void promise21NoneIsManned() {
        Due.sentence(21, "how many posts are manned if: none is");
        FortressWatch x = Due.wall("p6<3>3;p15<3>3;m1");
        Due.due("greedy()", x.greedy(), 2);
        Due.due("who is manned", Edges.manned(x), 2);
        Due.due("the changes", x.account(12), 3);
    }

    private static void promise22HowMany() {
        Due.sentence(22, "Returns how many posts a fewest watch would have in some hour");
        // By twilight 11 to 13 are left by the first, one for each other one; then 10 to 14, and 9 to 15.
        int[] due = {2, 2, 2, 2, 2, 2, 4, 4, 5, 5, NOTHING, NOTHING};
        FortressWatch x = Due.wall("p0<11>11;p12<1>1;p11<2>1;p13<1>3;p10<2>0");
        for (int hour = 0; hour <= 11; hour++) {
            Due.due("wouldNeed(" + hour + ")", x.wouldNeed(hour), due[hour]);
        }
        Due.due("nine of nine", Due.wall("p1<1>1;p4<1>1;p7<1>1;p10<1>1;p13<1>1;p16<1>1;p19<1>1;p21<0>0;p22<0>1")
            .wouldNeed(5), 9);
    }

    private static void promise22OutOfRange() {
        Due.sentence(22, "BAD if the hour is out of range");
        FortressWatch x = Due.wall("p0<11>11;p12<11>11");
        Edges.range("the need in the hour", x, 0, 11, BAD, FortressWatch::wouldNeed);
        Due.due("before NOTHING", new FortressWatch().wouldNeed(12), BAD);
        Due.due("before NOTHING", new FortressWatch().wouldNeed(-1), BAD);
    }

    private static void promise22NoFullWatch() {
        Due.sentence(22, "NOTHING if there would be no full watch");
        for (int hour = 0; hour <= 11; hour++) {
            Due.due("wouldNeed(" + hour + ") without posts", new FortressWatch().wouldNeed(hour), NOTHING);
        }
        FortressWatch x = Due.wall("p0<11>11;p12<1>1;h11");
        Due.due("wouldNeed(5) by night", x.wouldNeed(5), 2);
        Due.due("wouldNeed(7) by night", x.wouldNeed(7), NOTHING);
        Due.due("fewest() by night", x.fewest(), NOTHING);
        x.hour(0);
        Due.due("wouldNeed(11) by day", x.wouldNeed(11), NOTHING);
        Due.due("fewest() by day", x.fewest(), 3);
    }

    private static void promise22HourStays() {
        Due.sentence(22, "would have: the hour stays");
        FortressWatch x = Due.wall("p0<11>11;p12<1>1;m0;h3");
        x.wouldNeed(11);
        Due.due("the hour", x.account(7), 3);
        Due.due("the watched stones", x.account(2), 23);
        Due.due("the stones that a post sees", x.postOf(0, 6), 23);
        Due.due("the changes", x.account(12), 4);
    }

    private static void promise23HowMany() {
        Due.sentence(23, "how many stones would be watched if each manned post was so many stones to the "
            + "right of where it is");
        FortressWatch x = Due.wall("p3<2>4;p6<1>1;p15<0>3;m0;m1;m2");
        for (int by = 0; by < 24; by++) {
            Due.due("wouldTurn(" + by + ")", x.wouldTurn(by), 11);
        }
        x.hour(8);
        Due.due("by the light", x.wouldTurn(1), 6);
        Due.due("none is watched", new FortressWatch().wouldTurn(23), 0);
        Due.due("the whole ring", Due.wall("p0<11>11;p12<0>0;w").wouldTurn(1), 24);
    }

    private static void promise23RoundTheRing() {
        Due.sentence(23, "with its blind angle");
        FortressWatch x = Due.wall("p22<3>3;b0!23+4;p3<5>0;b1!22+8;m0;m1");
        // The first sees 19 to 22, the second none but, without its blind angle, 22 to 3.
        for (int by = 0; by < 24; by++) {
            Due.due("wouldTurn(" + by + ")", x.wouldTurn(by), 4);
        }
    }

    private static void promise23MannedAlone() {
        Due.sentence(23, "if each manned post was");
        FortressWatch x = Due.wall("p3<2>4;p15<1>1");
        Due.due("none is manned", x.wouldTurn(5), 0);
        x.man(1, 1);
        Due.due("the second", x.wouldTurn(5), 3);
        x.man(0, 1);
        Due.due("both", x.wouldTurn(23), 10);
    }

    private static void promise23OutOfRange() {
        Due.sentence(23, "BAD if the number is out of range");
        FortressWatch x = Due.wall("p3<2>4;m0");
        Edges.range("the turn", x, 0, 23, BAD, FortressWatch::wouldTurn);
        Edges.range("the turn of none", new FortressWatch(), 0, 23, BAD, FortressWatch::wouldTurn);
    }

    private static void promise23PostsStay() {
        Due.sentence(23, "would be watched: the posts stay");
        FortressWatch x = Due.wall("p3<2>4;b0!3+1;m0");
        String before = Edges.wall(x);
        x.wouldTurn(7);
        Due.due("the wall", Edges.wall(x), before);
        Due.due("what is seen", Edges.sight(x, 0), Edges.stones(1, 7) - 8);
    }

    private static void ranks(String what, FortressWatch x, int kind, int... due) {
        for (int place = 0; place < due.length; place++) {
            Due.due(what + ": ranked(" + kind + ", " + place + ")", x.ranked(kind, place), due[place]);
        }
    }

    private static void promise24BySeen() {
        Due.sentence(24, "0 by how many stones it sees, the most first");
        FortressWatch x = Due.wall("p3<0>1;p9<4>4;p15<0>0;p20<1>1;m2");
        ranks("by day", x, 0, 1, 3, 0, 2);
        x.blind(1, 5, 8);
        ranks("but for a blind angle", x, 0, 3, 0, 1, 2);
        x.reach(0, 0, 11);
        x.hour(10);
        ranks("by night", x, 0, 0, 2, 3, 1);
        x = Due.wall("p9<0>0;p8<0>1;p7<0>2;p6<0>3;p5<0>4;p4<0>5;p3<0>6;p2<0>7;p1<0>8");
        ranks("nine", x, 0, 8, 7, 6, 5, 4, 3, 2, 1, 0);
    }

    private static void promise24ByStone() {
        Due.sentence(24, "1 by its stone, the lowest first");
        FortressWatch x = Due.wall("p23<0>1;p9<4>4;p0<0>0;p20<1>1;p10<2>2");
        ranks("the stones", x, 1, 2, 1, 4, 3, 0);
        x.tear(2);
        ranks("the stones without 0", x, 1, 1, 3, 2, 0);
        x = Due.wall("p9<0>0;p8<0>1;p7<0>2;p6<0>3;p5<0>4;p4<0>5;p3<0>6;p2<0>7;p1<0>8");
        ranks("nine", x, 1, 8, 7, 6, 5, 4, 3, 2, 1, 0);
    }

    private static void promise24ByAlone() {
        Due.sentence(24, "2 by how many stones no other post sees, the most first");
        FortressWatch x = Due.wall("p9<3>3;p10<3>3;p20<1>1;p0<2>2;p1<0>0;m0");
        // Of those that they see, none else sees 1, 1, 3, 4 and 0.
        ranks("manned or not", x, 2, 3, 2, 0, 1, 4);
        x.reach(1, 3, 4);
        ranks("a stone more", x, 2, 3, 2, 1, 0, 4);
        x.reach(0, 4, 3);
        x.reach(2, 0, 0);
        // 0 sees 5 to 12, 1 sees 7 to 14: two each alone; 2 sees one.
        ranks("others again", x, 2, 3, 0, 1, 2, 4);
        x.hour(10);
        // 0 sees 8 and 9, 1 sees 10 and 11, 2, 3 and 4 see their own.
        ranks("by night", x, 2, 0, 1, 2, 3, 4);
    }

    private static void promise24LowestOfSeveral() {
        Due.sentence(24, "of several the lowest first");
        FortressWatch x = Due.wall("p20<1>1;p15<0>0;p10<1>1;p5<0>0;p0<1>1");
        ranks("by what they see", x, 0, 0, 2, 4, 1, 3);
        ranks("by what they see alone", x, 2, 0, 2, 4, 1, 3);
        ranks("nine by what they see", Due.wall(Edges.NINE_FAR), 0, 0, 1, 2, 3, 4, 5, 6, 7, 8);
        ranks("nine by what they see alone", Due.wall(Edges.NINE_FAR), 2, 0, 1, 2, 3, 4, 5, 6, 7, 8);
    }

    private static void promise24NoSuchKind() {
        Due.sentence(24, "BAD if there is no such kind");
        FortressWatch x = Due.wall("p20<1>1;p15<0>0");
        Edges.range("the kind of order", x, 0, 2, BAD, (y, kind) -> y.ranked(kind, 1));
    }

    private static void promise24NoSuchPlace() {
        Due.sentence(24, "NONE if there is no such place");
        for (int kind = 0; kind <= 2; kind++) {
            int its = kind;
            Due.due("ranked(" + kind + ", 0) without posts", new FortressWatch().ranked(kind, 0), NONE);
            FortressWatch x = Due.wall("p20<1>1;p15<0>0");
            Edges.range("the place", x, 0, 1, NONE, (y, place) -> y.ranked(its, place));
            x = Due.wall(Edges.NINE);
            Edges.range("the place of nine", x, 0, 8, NONE, (y, place) -> y.ranked(its, place));
        }
    }

    private static void promise24BadBeforeNone() {
        Due.sentence(24, "If several errors apply, the one that is listed first is returned");
        FortressWatch x = Due.wall("p20<1>1;p15<0>0");
        Due.due("no kind, no place", x.ranked(3, 2), BAD);
        Due.due("no kind, no place", x.ranked(-1, -1), BAD);
        Due.due("no kind, without posts", new FortressWatch().ranked(3, 0), BAD);
    }
}
