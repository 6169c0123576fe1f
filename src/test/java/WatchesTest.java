/** Promises 15 to 24: watches, what would be, and orders. */
public final class WatchesTest {
    private static final int NONE = FortressWatch.NONE;
    private static final int BAD = FortressWatch.BAD;
    private static final int NOTHING = FortressWatch.NOTHING;

    public static void main(String[] args) {
        promises15To17Fewest();
        promises15To17LowestOfSeveral();
        promises15To17NineNeeded();
        promise18IsFull();
        promise19Spare();
        promise20Next();
        promise21Greedy();
        promise22WouldNeed();
        promise23WouldTurn();
        promise24Ranked();
        promise24RankedNine();
        Due.end();
    }

    private static void told(String what, FortressWatch x, int fewest, int watches) {
        Due.due(what + ": fewest()", x.fewest(), fewest);
        Due.due(what + ": fewestAgain()", x.fewestAgain(), fewest);
        Due.due(what + ": watches()", x.watches(), watches);
    }

    private static void promises15To17Fewest() {
        FortressWatch x = new FortressWatch();
        told("no posts", x, NOTHING, 0);
        x = Due.wall("p0<11>11");
        told("23 stones seen", x, NOTHING, 0);
        x.post(12, 0, 0);
        told("24 stones seen", x, 3, 1);
        x.blind(1, 12, 1);
        told("but for a blind angle", x, NOTHING, 0);
        x.see(1);
        x.post(6, 11, 11);
        told("one sees more, the other one, too", x, 5 - 2, 2);
        x.man(0, 1);
        told("who is manned does not matter", x, 3, 2);
        x.hour(6);
        told("by the light", x, 5, 1);
    }

    private static void promises15To17LowestOfSeveral() {
        FortressWatch x = Due.wall("p0<5>6;p1<5>6;p12<5>6;p13<5>6");
        // The halves meet for the posts 0 and 2, and for 1 and 3.
        told("two halves", x, 5, 2);
        x.reach(0, 5, 5);
        Due.due("the higher pair alone: fewestAgain() first", x.fewestAgain(), 10);
        told("the higher pair alone", x, 10, 1);
        x.reach(0, 5, 7);
        x.reach(1, 6, 6);
        told("of four the lowest", x, 5, 4);
        x = Due.wall("p0<4>3;p8<4>3;p16<4>3;p12<11>11;p1<2>2");
        told("two rather than three", x, 9, 1 + 1);
        x = Due.wall("p12<5>6;p1<5>6;p0<5>6;p13<5>6");
        // The second way comes to three first, by 1 and 0, then to 1 and 3, and to 0 and 2 at last.
        told("the last one found", x, 5, 2);
        x = Due.wall("p0<11>11;p1<11>11;p2<11>11;p3<11>11;p4<11>11;p5<11>11;p6<11>11;p7<11>11;p8<11>11");
        told("any two of nine", x, 3, 36);
    }

    private static void promises15To17NineNeeded() {
        FortressWatch x = Due.wall("p0<0>2;p3<0>2;p6<0>2;p9<0>2;p12<0>2;p15<0>2;p18<0>2;p21<0>0;p23<1>0");
        told("nine are needed", x, 511, 1);
        Due.due("watch() of nine", x.watch(), 9);
        Due.due("isFull(511)", x.isFull(511), 1);
        Due.due("isFull(255)", x.isFull(255), 0);
        Due.due("wouldNeed(0)", x.wouldNeed(0), 9);
        x.reach(7, 0, 1);
        told("and still", x, 511, 1);
        x.reach(7, 0, 2);
        told("but eight now", x, 255, 1);
    }

    private static void promise18IsFull() {
        FortressWatch x = new FortressWatch();
        Due.due("isFull(0) without posts", x.isFull(0), 0);
        Due.due("isFull(1) without posts", x.isFull(1), NONE);
        x = Due.wall("p0<11>11;p12<3>3;p3<1>1");
        int[] full = {0, 0, 0, 1, 0, 0, 0, 1};
        for (int set = 0; set < 8; set++) {
            Due.due("isFull(" + set + ")", x.isFull(set), full[set]);
        }
        Due.due("isFull(8)", x.isFull(8), NONE);
        Due.due("isFull(3 + 512)", x.isFull(515), NONE);
        Due.due("isFull(-1)", x.isFull(-1), NONE);
        Due.due("isFull(MIN)", x.isFull(Integer.MIN_VALUE), NONE);
        Due.due("isFull(MAX)", x.isFull(Integer.MAX_VALUE), NONE);
        x.hour(8);
        Due.due("isFull(3) at the hour 8", x.isFull(3), 0);
        Due.due("isFull(8) at the hour 8", x.isFull(8), NONE);
    }

    private static void promise19Spare() {
        FortressWatch x = new FortressWatch();
        Due.due("spare() without posts", x.spare(), 0);
        x = Due.wall("p4<1>1;p6<1>1;p5<1>1;p20<0>0;b3!20+1");
        Due.due("spare() with none manned", x.spare(), 0);
        x.man(3, 1);
        Due.due("who sees no stone can leave", x.spare(), 1);
        x.man(0, 1);
        x.man(1, 1);
        Due.due("the two others are needed", x.spare(), 1);
        x.man(2, 1);
        Due.due("the one between can leave", x.spare(), 2);
        Due.due("none has left", x.account(1), 4);
        x = Due.wall("p5<0>0;p4<1>1;p6<1>1;m0;m1;m2");
        Due.due("the stone 5 is seen by three", x.spare(), 1);
        x = Due.wall("p5<1>1;p4<0>0;p6<0>0;m0;m1;m2");
        // The highest first: 2 and 1 can leave, though 0 could if they stayed.
        Due.due("the highest first, then the next", x.spare(), 2);
        x = Due.wall("p4<0>0;p6<0>0;p5<1>1;m0;m1;m2");
        // The highest first: 2 leaves nobody to see the stone 5.
        Due.due("the lower ones", x.spare(), 2);
        x = Due.wall("p0<0>1;p3<1>0;p2<1>0;p4<1>1;p5<1>0;m0;m1;m2;m3;m4");
        // 4 leaves 5 to 3; 3 must stay then; 2 leaves; 1 and 0 stay.
        Due.due("one by one", x.spare(), 2);
        x = Due.wall("p1<0>0;p3<0>0;p5<0>0;p7<0>0;p9<0>0;p11<0>0;p13<0>0;p15<1>0;p16<1>0;"
            + "m0;m1;m2;m3;m4;m5;m6;m7;m8");
        Due.due("none of nine", x.spare(), 0);
        x.blind(8, 16, 1);
        Due.due("the ninth of nine", x.spare(), 1);
        x.blind(7, 15, 1);
        Due.due("none of nine again", x.spare(), 0);
        x = Due.wall("p5<2>2;p6<2>2;m0;m1;h10");
        Due.due("in the dark each sees its own", x.spare(), 0);
    }

    private static void promise20Next() {
        FortressWatch x = new FortressWatch();
        Due.due("next() without posts", x.next(), NOTHING);
        x = Due.wall("p0<1>1;p5<2>2;p12<2>2;p6<1>3");
        Due.due("of several the lowest", x.next(), 1);
        x.man(1, 1);
        Due.due("the most that are not watched", x.next(), 2);
        x.man(2, 1);
        Due.due("0 closes three, 3 closes two", x.next(), 0);
        x.blind(0, 0, 2);
        Due.due("0 closes one, 3 closes two", x.next(), 3);
        x.man(3, 1);
        Due.due("0 is left", x.next(), 0);
        x.man(0, 1);
        Due.due("all are manned", x.next(), NOTHING);
        x.post(13, 1, 1);
        Due.due("none would watch any", x.next(), NOTHING);
    }

    private static void promise21Greedy() {
        FortressWatch x = new FortressWatch();
        Due.due("greedy() without posts", x.greedy(), 0);
        x = Due.wall("p0<5>5;p12<5>5;p6<5>5;p18<5>5;p2<0>0");
        // 0 and 1 see eleven each, 6 and 18 are left, one for the post 2, one for 3.
        Due.due("greedy() of five", x.greedy(), 4);
        Due.due("none is manned by it", x.account(1), 0);
        x.man(4, 1);
        Due.due("with those manned now", x.greedy(), 5);
        x = Due.wall("p0<2>2;p4<2>2;p2<3>3;m0;m1");
        Due.due("the middle one would watch none", x.greedy(), 2);
        x.man(0, 0);
        x.man(1, 0);
        Due.due("the middle one first", x.greedy(), 3);
        x.reach(2, 4, 4);
        Due.due("the middle one alone", x.greedy(), 1);
    }

    private static void promise22WouldNeed() {
        FortressWatch x = Due.wall("p0<6>6;p12<6>6;p6<6>6;p18<6>6");
        int[] needs = {2, 2, 2, 2, 2, 2, 4, 4, 4, 4, 4, 4};
        for (int hour = 0; hour < 12; hour++) {
            Due.due("wouldNeed(" + hour + ")", x.wouldNeed(hour), needs[hour]);
        }
        Due.due("the hour stays", x.account(7), 0);
        x.hour(11);
        Due.due("wouldNeed(5) at the hour 11", x.wouldNeed(5), 2);
        Due.due("wouldNeed(11) at the hour 11", x.wouldNeed(11), 4);
        x.tear(0);
        Due.due("wouldNeed(11) of three", x.wouldNeed(11), NOTHING);
        Due.due("wouldNeed(5) of three", x.wouldNeed(5), 2);
        Due.due("wouldNeed(12)", x.wouldNeed(12), BAD);
        Due.due("wouldNeed(-1)", x.wouldNeed(-1), BAD);
        Due.due("wouldNeed(MAX)", x.wouldNeed(Integer.MAX_VALUE), BAD);
        Due.due("wouldNeed(0) without posts", new FortressWatch().wouldNeed(0), NOTHING);
        Due.due("wouldNeed(12) without posts", new FortressWatch().wouldNeed(12), BAD);
    }

    private static void promise23WouldTurn() {
        FortressWatch x = Due.wall("p22<2>3;b0!23+2;p3<1>1;p10<5>5;m0;m1");
        for (int by = 0; by < 24; by++) {
            Due.due("wouldTurn(" + by + ")", x.wouldTurn(by), 7);
        }
        Due.due("no post has turned", x.postOf(0, 0), 22);
        x.hour(10);
        Due.due("by the light", x.wouldTurn(5), 2);
        Due.due("wouldTurn(24)", x.wouldTurn(24), BAD);
        Due.due("wouldTurn(-1)", x.wouldTurn(-1), BAD);
        Due.due("wouldTurn(MIN)", x.wouldTurn(Integer.MIN_VALUE), BAD);
        x = Due.wall("p0<11>11;p12<11>11;m0;m1");
        Due.due("the whole ring", x.wouldTurn(17), 24);
    }

    private static void ranks(String what, FortressWatch x, int kind, int... due) {
        for (int place = 0; place < due.length; place++) {
            Due.due(what + ": ranked(" + kind + ", " + place + ")", x.ranked(kind, place), due[place]);
        }
        Due.due(what + ": no such place", x.ranked(kind, due.length), NONE);
    }

    private static void promise24Ranked() {
        FortressWatch x = Due.wall("p10<1>1;p3<0>0;p11<1>1;p20<3>3;p0<2>2;m1");
        ranks("by what they see", x, 0, 3, 4, 0, 2, 1);
        ranks("by their stones", x, 1, 4, 1, 0, 2, 3);
        ranks("by what they see alone", x, 2, 3, 4, 0, 1, 2);
        x.hour(10);
        ranks("by what they see in the dark", x, 0, 0, 1, 2, 3, 4);
        ranks("by their stones in the dark", x, 1, 4, 1, 0, 2, 3);
        Due.due("ranked(-1, 0)", x.ranked(-1, 0), BAD);
        Due.due("ranked(3, 0)", x.ranked(3, 0), BAD);
        Due.due("ranked(3, -1)", x.ranked(3, -1), BAD);
        Due.due("ranked(0, -1)", x.ranked(0, -1), NONE);
        Due.due("ranked(0, MAX)", x.ranked(0, Integer.MAX_VALUE), NONE);
        Due.due("ranked(MIN, 0)", x.ranked(Integer.MIN_VALUE, 0), BAD);
        ranks("without posts", new FortressWatch(), 0);
        ranks("without posts", new FortressWatch(), 1);
    }

    private static void promise24RankedNine() {
        FortressWatch x = Due.wall("p9<0>0;p8<0>1;p7<0>2;p6<0>3;p5<0>4;p4<0>5;p3<0>6;p2<0>7;p1<0>8");
        ranks("nine by what they see", x, 0, 8, 7, 6, 5, 4, 3, 2, 1, 0);
        ranks("nine by their stones", x, 1, 8, 7, 6, 5, 4, 3, 2, 1, 0);
        ranks("nine by what they see alone", x, 2, 8, 0, 1, 2, 3, 4, 5, 6, 7);
    }
}
