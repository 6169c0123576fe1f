/** Promises 1 to 9: a new object and the posts. */
public final class PostsTest {
    private static final int NONE = FortressWatch.NONE;
    private static final int BAD = FortressWatch.BAD;
    private static final int REFUSED = FortressWatch.REFUSED;
    private static final int NOTHING = FortressWatch.NOTHING;
    private static final int[] NO_REACH = {-1, 12, Integer.MIN_VALUE, Integer.MAX_VALUE};
    private static final int[] NO_STONE = {-1, 24, Integer.MIN_VALUE, Integer.MAX_VALUE};

    public static void main(String[] args) {
        constants();
        promise1NewObject();
        promise2Post();
        promise2PostRefused();
        promise3Tear();
        promise3TearOfNine();
        promise4Reach();
        promise5Blind();
        promise6See();
        promise7Man();
        promise8Hour();
        promise9Watch();
        errorsLeaveTheState();
        Due.end();
    }

    private static void constants() {
        Due.due("NONE", FortressWatch.NONE, -1);
        Due.due("BAD", FortressWatch.BAD, -2);
        Due.due("REFUSED", FortressWatch.REFUSED, -3);
        Due.due("NOTHING", FortressWatch.NOTHING, -4);
    }

    private static void promise1NewObject() {
        FortressWatch x = new FortressWatch();
        int[] accounts = {0, 0, 0, 0, 1, 24, 24, 0, 0, 0, 0, 0, 0};
        for (int what = 0; what < accounts.length; what++) {
            Due.due("new: account(" + what + ")", x.account(what), accounts[what]);
        }
        Due.refused("new", x, NOTHING, NOTHING, NOTHING);
        Due.due("new: sign(0)", x.sign(0), NONE);
        Due.due("new: undo()", x.undo(), NOTHING);
        Due.due("new: restore()", x.restore(), NOTHING);
        Due.due("new: postOf(0, 0)", x.postOf(0, 0), NONE);
        FortressWatch y = new FortressWatch();
        x.post(3, 1, 1);
        Due.due("another object stays as it is", y.account(0), 0);
    }

    private static void promise2Post() {
        FortressWatch x = new FortressWatch();
        Due.due("post(0, 0, 11)", x.post(0, 0, 11), 0);
        Due.due("post(23, 11, 0)", x.post(23, 11, 0), 1);
        Due.due("post(5, 3, 4)", x.post(5, 3, 4), 2);
        int[] numbers = {5, 3, 4, NOTHING, 0, 0};
        for (int what = 0; what < numbers.length; what++) {
            Due.due("postOf(2, " + what + ")", x.postOf(2, what), numbers[what]);
        }
        for (int stone : NO_STONE) {
            Due.due("post(" + stone + ", 1, 1)", x.post(stone, 1, 1), NONE);
            Due.due("post(" + stone + ", 12, 1)", x.post(stone, 12, 1), NONE);
        }
        for (int reach : NO_REACH) {
            Due.due("post(7, " + reach + ", 1)", x.post(7, reach, 1), BAD);
            Due.due("post(7, 1, " + reach + ")", x.post(7, 1, reach), BAD);
            Due.due("post(5, 1, " + reach + ") on a taken stone", x.post(5, 1, reach), BAD);
        }
        Due.due("none of these built one", x.account(0), 3);
        Due.due("none of these counts as built", x.account(8), 3);
        Due.due("none of these can be undone", x.account(12), 3);
    }

    private static void promise2PostRefused() {
        FortressWatch x = Due.wall("p1<0>0;p2<0>0;p3<0>0;p4<0>0;p5<0>0;p6<0>0;p7<0>0;p8<0>0");
        Due.due("post on a taken stone", x.post(3, 1, 1), REFUSED);
        Due.refused("post on a taken stone", x, 2, 2, NOTHING);
        Due.due("the ninth post", x.post(9, 0, 0), 8);
        Due.due("a tenth post", x.post(10, 0, 0), REFUSED);
        Due.refused("a tenth post", x, 1, 9, NOTHING);
        Due.due("a tenth post on a taken stone", x.post(9, 0, 0), REFUSED);
        Due.refused("a tenth post on a taken stone", x, 2, 8, NOTHING);
        Due.due("a tenth post too far", x.post(10, 0, 12), BAD);
        Due.due("a tenth post on no stone", x.post(24, 0, 0), NONE);
        Due.refused("BAD and NONE keep the reasons", x, 2, 8, NOTHING);
        Due.due("nine posts", x.account(0), 9);
    }

    private static void promise3Tear() {
        FortressWatch x = Due.wall("p4<1>2;p9<3>4;p15<5>6;b1!10+2;m1;m2");
        Due.due("tear(-1)", x.tear(-1), NONE);
        Due.due("tear(3)", x.tear(3), NONE);
        Due.due("tear(MAX)", x.tear(Integer.MAX_VALUE), NONE);
        Due.due("tear(0)", x.tear(0), 2);
        Due.due("the later ones' numbers", Due.described(x, 0), "0@9<3>4!10+2*");
        Due.due("the later ones' numbers", Due.described(x, 1), "1@15<5>6*");
        Due.due("describe(2)", x.describe(2), NONE);
        Due.due("tear(1)", x.tear(1), 1);
        Due.due("account(9)", x.account(9), 2);
        Due.due("account(8)", x.account(8), 3);
        Due.due("the stone is free again", x.post(15, 7, 8), 1);
        Due.due("a new post in its place", Due.described(x, 1), "1@15<7>8");
        Due.due("tear(0)", x.tear(0), 1);
        Due.due("a post without the torn one's blind angle", x.post(9, 1, 1), 1);
        Due.due("a post without the torn one's blind angle", Due.described(x, 1), "1@9<1>1");
        Due.due("tear(1)", x.tear(1), 1);
        Due.due("tear(0)", x.tear(0), 0);
        Due.due("tear(0) of none", x.tear(0), NONE);
    }

    private static void promise3TearOfNine() {
        FortressWatch x = Due.wall("p1<0>0;p2<0>0;p3<0>0;p4<0>0;p5<0>0;p6<0>0;p7<0>0;p8<0>0;p9<3>4;b8!10+2;m8");
        Due.due("tear(0) of nine", x.tear(0), 8);
        Due.due("the ninth is the eighth", Due.described(x, 7), "7@9<3>4!10+2*");
        Due.due("no ninth", x.describe(8), NONE);
        Due.due("who is manned", x.account(1), 1);
        Due.due("another ninth", x.post(1, 5, 6), 8);
        Due.due("a plain ninth", Due.described(x, 8), "8@1<5>6");
        x.man(8, 1);
        x.blind(8, 0, 3);
        Due.due("tear(8) of nine", x.tear(8), 8);
        Due.due("who is manned", x.account(1), 1);
        Due.due("post(1, 7, 7)", x.post(1, 7, 7), 8);
        Due.due("a plain ninth again", Due.described(x, 8), "8@1<7>7");
    }

    private static void promise4Reach() {
        FortressWatch x = Due.wall("p4<1>2;p9<3>11");
        Due.due("reach(1, 0, 11)", x.reach(1, 0, 11), 311);
        Due.due("reach(1, 11, 0)", x.reach(1, 11, 0), 11);
        Due.due("postOf(1, 1)", x.postOf(1, 1), 11);
        Due.due("postOf(1, 2)", x.postOf(1, 2), 0);
        Due.due("another post's reaches", x.postOf(0, 1) * 100 + x.postOf(0, 2), 102);
        Due.due("reach(1, 11, 0) again", x.reach(1, 11, 0), REFUSED);
        Due.refused("reach(1, 11, 0) again", x, 3, 11, NOTHING);
        Due.due("the left one alone is so already", x.reach(1, 11, 5), 1100);
        Due.due("the right one alone is so already", x.reach(1, 2, 5), 1105);
        Due.due("reach(-1, 1, 1)", x.reach(-1, 1, 1), NONE);
        Due.due("reach(2, 12, 1)", x.reach(2, 12, 1), NONE);
        for (int reach : NO_REACH) {
            Due.due("reach(0, " + reach + ", 2)", x.reach(0, reach, 2), BAD);
            Due.due("reach(0, 1, " + reach + ")", x.reach(0, 1, reach), BAD);
        }
        FortressWatch y = Due.wall("p4<1>2;m0;h10");
        Due.due("reaches are told without the light", y.reach(0, 5, 6), 102);
        Due.due("and the new ones, too", y.postOf(0, 1) * 100 + y.postOf(0, 2), 506);
        Due.due("another reach leaves who is manned", y.postOf(0, 5), 1);
    }

    private static void promise5Blind() {
        FortressWatch x = Due.wall("p4<2>3;p20<0>0;m0");
        Due.due("blind(0, 5, 1)", x.blind(0, 5, 1), 5);
        Due.due("in place of another one", x.blind(0, 3, 2), 4);
        Due.due("its own stone can be in it", x.sees(0, 4), 0);
        Due.due("postOf(0, 3)", x.postOf(0, 3), 3);
        Due.due("postOf(0, 4)", x.postOf(0, 4), 2);
        Due.due("the same again", x.blind(0, 3, 2), REFUSED);
        Due.refused("the same again", x, 3, 3, NOTHING);
        Due.due("the same stone, another number", x.blind(0, 3, 8), 1);
        Due.due("another stone, the same number", x.blind(0, 0, 8), 0);
        Due.due("round the ring, up to stone 6", x.blind(0, 23, 8), 1);
        Due.due("round the ring, up to stone 3", x.blind(0, 21, 7), 4);
        Due.due("blind(1, 20, 1): none is seen", x.blind(1, 20, 1), 0);
        Due.due("blind(2, 0, 1)", x.blind(2, 0, 1), NONE);
        Due.due("blind(-1, 0, 0)", x.blind(-1, 0, 0), NONE);
        for (int stone : NO_STONE) {
            Due.due("blind(0, " + stone + ", 9)", x.blind(0, stone, 9), NONE);
        }
        Due.due("blind(0, 0, 0)", x.blind(0, 0, 0), BAD);
        Due.due("blind(0, 0, 9)", x.blind(0, 0, 9), BAD);
        Due.due("blind(0, 0, MIN)", x.blind(0, 0, Integer.MIN_VALUE), BAD);
        Due.due("blind(0, 0, MAX)", x.blind(0, 0, Integer.MAX_VALUE), BAD);
        Due.due("a blind angle leaves who is manned", x.postOf(0, 5), 1);
        x.hour(6);
        Due.due("sights are told by the light", x.blind(0, 7, 1), 4);
    }

    private static void promise6See() {
        FortressWatch x = Due.wall("p4<2>3;p0<1>1;b0!5+3");
        Due.due("see(0)", x.see(0), 6);
        Due.due("postOf(0, 3)", x.postOf(0, 3), NOTHING);
        Due.due("postOf(0, 4)", x.postOf(0, 4), 0);
        Due.due("see(0) again", x.see(0), REFUSED);
        Due.refused("see(0) again", x, 5, 0, NOTHING);
        Due.due("see(1)", x.see(1), REFUSED);
        Due.refused("see(1)", x, 5, 1, NOTHING);
        Due.due("see(2)", x.see(2), NONE);
        Due.due("see(-1)", x.see(-1), NONE);
        Due.due("the blind angle after see", x.blind(0, 5, 3), 3);
        x.hour(11);
        Due.due("see(0) in the dark", x.see(0), 1);
    }

    private static void promise7Man() {
        FortressWatch x = Due.wall("p4<2>3;p8<3>1;p20<0>0;b2!20+1");
        Due.due("man(0, 1)", x.man(0, 1), 6);
        Due.due("man(1, 1)", x.man(1, 1), 8);
        Due.due("man(2, 1) of a post that sees none", x.man(2, 1), 8);
        Due.due("man(0, 1) again", x.man(0, 1), REFUSED);
        Due.refused("man(0, 1) again", x, 3, 1, NOTHING);
        Due.due("man(0, 0)", x.man(0, 0), 5);
        Due.due("man(0, 0) again", x.man(0, 0), REFUSED);
        Due.refused("man(0, 0) again", x, 3, 0, NOTHING);
        Due.due("man(3, 2)", x.man(3, 2), NONE);
        Due.due("man(-1, 1)", x.man(-1, 1), NONE);
        Due.due("man(0, 2)", x.man(0, 2), BAD);
        Due.due("man(0, -1)", x.man(0, -1), BAD);
        Due.due("man(1, 0)", x.man(1, 0), 0);
    }

    private static void promise8Hour() {
        FortressWatch x = Due.wall("p10<2>4;m0");
        int[] seen = {7, 7, 7, 7, 7, 7, 5, 5, 3, 3, 2, 2};
        Due.due("hour(0)", x.hour(0), REFUSED);
        Due.refused("hour(0)", x, 3, 0, NOTHING);
        for (int hour = 1; hour <= 11; hour++) {
            Due.due("hour(" + hour + ")", x.hour(hour), hour - 1);
            Due.due("account(7)", x.account(7), hour);
            Due.due("what is seen in the hour " + hour, x.postOf(0, 6), seen[hour]);
        }
        Due.due("hour(11) again", x.hour(11), REFUSED);
        Due.refused("hour(11) again", x, 3, 11, NOTHING);
        Due.due("hour(12)", x.hour(12), BAD);
        Due.due("hour(-1)", x.hour(-1), BAD);
        Due.due("hour(MIN)", x.hour(Integer.MIN_VALUE), BAD);
        Due.due("hour(MAX)", x.hour(Integer.MAX_VALUE), BAD);
        Due.due("no reach is below 0 by the light", x.sees(0, 9), 0);
        Due.due("the stone in reach", x.sees(0, 11), 1);
        Due.due("another hour leaves who is manned", x.postOf(0, 5), 1);
        Due.due("hour(0)", x.hour(0), 11);
        Due.due("reaches come back with the light", x.postOf(0, 6), 7);
    }

    private static void promise9Watch() {
        FortressWatch x = new FortressWatch();
        Due.due("watch() without posts", x.watch(), REFUSED);
        Due.refused("watch() without posts", x, 4, 24, NOTHING);
        x = Due.wall("p0<4>4;p8<4>4;p16<4>4;p3<11>11;m0;m1");
        Due.due("watch()", x.watch(), 2);
        Due.due("the posts of the watch told alone", x.postOf(0, 5) + x.postOf(1, 5), 0);
        Due.due("the posts of the watch told", x.postOf(2, 5) + x.postOf(3, 5), 2);
        Due.due("account(10)", x.account(10), 1);
        int changes = x.account(12);
        Due.due("watch() again", x.watch(), 2);
        Due.due("it is a change again", x.account(12), changes + 1);
        Due.due("account(10)", x.account(10), 2);
        x.hour(10);
        Due.due("watch() in the dark", x.watch(), REFUSED);
        Due.refused("watch() in the dark", x, 4, 4, NOTHING);
        Due.due("the refused one leaves the sentries", x.account(1), 2);
        Due.due("account(10)", x.account(10), 2);
    }

    private static void errorsLeaveTheState() {
        FortressWatch x = Due.wall("p0<4>4;p8<4>4;b1!9+1;m1");
        int changes = x.account(12);
        x.post(0, 1, 1);
        x.post(24, 1, 1);
        x.tear(2);
        x.reach(0, 4, 4);
        x.reach(0, 4, 12);
        x.blind(1, 9, 1);
        x.blind(1, 9, 9);
        x.see(0);
        x.man(1, 1);
        x.man(1, 7);
        x.hour(0);
        x.hour(12);
        x.watch();
        Due.due("the first post after errors", Due.described(x, 0), "0@0<4>4");
        Due.due("the second post after errors", Due.described(x, 1), "1@8<4>4!9+1*");
        Due.due("the changes after errors", x.account(12), changes);
        Due.due("the posts built after errors", x.account(8), 2);
    }
}
