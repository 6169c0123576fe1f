/** Promises 1 to 9, sentence by sentence, at the edges that the document names. */
public final class PostsEdgesTest {
    private static final int NONE = FortressWatch.NONE;
    private static final int BAD = FortressWatch.BAD;
    private static final int REFUSED = FortressWatch.REFUSED;
    private static final int NOTHING = FortressWatch.NOTHING;
    /** By how much reaches are less in the hours 0 to 11. */
    private static final int[] LESS = {0, 0, 0, 0, 0, 0, 1, 1, 2, 2, 3, 3};

    public static void main(String[] args) {
        promise1WithoutPosts();
        promise1HourAtFirst();
        promise1Empty();
        promise1Apart();
        promise2Number();
        promise2Stone();
        promise2Reaches();
        promise2RingOfStones();
        promise2StoneTaken();
        promise2NinePosts();
        promise2TakenBeforeNine();
        promise2ErrorsInOrder();
        promise2NotManned();
        promise2NoBlindAngle();
        promise3NoSuchPost();
        promise3HowManyThen();
        promise3NumbersOfTheLater();
        promise3NotMannedAnyMore();
        promise3StoneFree();
        promise4Before();
        promise4NoSuchPost();
        promise4ReachOutOfRange();
        promise4BothSoAlready();
        promise4OneSoAlready();
        promise4WithoutTheLight();
        promise4LeavesWhoIsManned();
        promise4RoundTheRing();
        promise5SeesThen();
        promise5NoSuchPost();
        promise5NoSuchStone();
        promise5Many();
        promise5SoAlready();
        promise5InPlace();
        promise5OwnStone();
        promise5OnToTheRight();
        promise5NoneBeforeBad();
        promise6SeesThen();
        promise6NoSuchPost();
        promise6NoBlindAngle();
        promise7WatchedThen();
        promise7NoSuchPost();
        promise7Neither();
        promise7SoAlready();
        promise8Before();
        promise8OutOfRange();
        promise8SoAlready();
        promise8Less();
        promise8NoneBelowZero();
        promise8LeavesWhoIsManned();
        promise9HowMany();
        promise9NoOthers();
        promise9SoAlreadyIsAChange();
        promise9LowestOfSeveral();
        promise9NoFullWatch();
        promise9AtTheHour();
        Due.end();
    }

    private static void promise1WithoutPosts() {
        Due.sentence(1, "Creates a wall without posts");
        FortressWatch x = new FortressWatch();
        Due.due("the posts", x.account(0), 0);
        Due.due("the posts built so far", x.account(8), 0);
        Due.due("the posts torn down so far", x.account(9), 0);
        for (int post = 0; post < 9; post++) {
            Due.due("postOf(" + post + ", 0)", x.postOf(post, 0), NONE);
        }
        Due.due("all stones are seen by none", x.account(6), 24);
        Due.due("the first post's number", x.post(23, 0, 0), 0);
    }

    private static void promise1HourAtFirst() {
        Due.sentence(1, "The hour is from 0 to 11, at first 0");
        FortressWatch x = new FortressWatch();
        Due.due("the hour", x.account(7), 0);
        Due.due("hour(0)", x.hour(0), REFUSED);
        Due.due("hour(1)", x.hour(1), 0);
    }

    private static void promise1Empty() {
        Due.sentence(1, "A new object has no text, no line, no reasons, no change and no snapshot");
        FortressWatch x = new FortressWatch();
        Due.due("the characters of the text", x.account(11), 0);
        Due.due("read()", x.read(), -100);
        Due.due("sign(0)", x.sign(0), NONE);
        Due.refused("nothing", x, NOTHING, NOTHING, NOTHING);
        Due.due("undo()", x.undo(), NOTHING);
        Due.due("restore()", x.restore(), NOTHING);
        Due.due("a watch was manned so far", x.account(10), 0);
    }

    private static void promise1Apart() {
        Due.sentence(1, "Creates a wall: each object one of its own");
        FortressWatch x = Due.wall("p0<11>11;p12<3>3;w;h3");
        x.save();
        x.show();
        x.hour(3);
        Due.append(x, "h4");
        FortressWatch y = new FortressWatch();
        Due.due("the other's wall", Edges.wall(y), "0 0 0 0 ");
        Due.due("the other's line", Due.line(y), "");
        Due.due("the other's text", y.account(11), 0);
        Due.due("the other's reasons", y.refusal(0), NOTHING);
        Due.due("the other's changes", y.undo(), NOTHING);
        Due.due("the other's snapshot", y.restore(), NOTHING);
    }

    private static void promise2Number() {
        Due.sentence(2, "Returns its number");
        int[] stones = {12, 0, 23, 5, 4, 6, 22, 1, 13};
        FortressWatch x = new FortressWatch();
        for (int post = 0; post < 9; post++) {
            Due.due("post(" + stones[post] + ", 1, 2)", x.post(stones[post], 1, 2), post);
        }
        for (int post = 0; post < 9; post++) {
            Due.due("the stone of " + post, x.postOf(post, 0), stones[post]);
        }
    }

    private static void promise2Stone() {
        Due.sentence(2, "NONE if there is no such stone");
        FortressWatch x = new FortressWatch();
        Edges.range("a post on the stone", x, 0, 23, NONE, (y, stone) -> y.post(stone, 3, 3));
        Due.due("the posts then", x.account(0), 2);
        Due.due("the first one's stone", x.postOf(0, 0), 0);
        Due.due("the second one's stone", x.postOf(1, 0), 23);
    }

    private static void promise2Reaches() {
        Due.sentence(2, "BAD if a reach is out of range");
        FortressWatch x = new FortressWatch();
        Edges.range("a post that reaches to the left", x, 0, 11, BAD, (y, left) -> y.post(y.account(0), left, 4));
        Edges.range("a post that reaches to the right", x, 0, 11, BAD, (y, right) -> y.post(y.account(0), 4, right));
        Due.due("the posts then", x.account(0), 4);
        Due.due("the least to the left", Due.described(x, 0), "0@0<0>4");
        Due.due("the most to the left", Due.described(x, 1), "1@1<11>4");
        Due.due("the least to the right", Due.described(x, 2), "2@2<4>0");
        Due.due("the most to the right", Due.described(x, 3), "3@3<4>11");
    }

    private static void promise2RingOfStones() {
        Due.sentence(2, "behind the stone 23 comes the stone 0");
        FortressWatch x = Due.wall("p23<0>1;p0<1>0;p22<0>11;p1<11>0");
        Due.due("23 and one to the right", Edges.sight(x, 0), Edges.stones(23, 0));
        Due.due("0 and one to the left", Edges.sight(x, 1), Edges.stones(23, 0));
        Due.due("22 and eleven to the right", Edges.sight(x, 2), Edges.stones(22, 9));
        Due.due("1 and eleven to the left", Edges.sight(x, 3), Edges.stones(14, 1));
        x = Due.wall("p12<11>11;p11<11>11;p0<11>11;p23<11>11");
        Due.due("all but the stone 0", Edges.sight(x, 0), Edges.stones(1, 23));
        Due.due("all but the stone 23", Edges.sight(x, 1), Edges.stones(0, 22));
        Due.due("all but the stone 12", Edges.sight(x, 2), Edges.stones(13, 11));
        Due.due("all but the stone 11", Edges.sight(x, 3), Edges.stones(12, 10));
    }

    private static void promise2StoneTaken() {
        Due.sentence(2, "REFUSED for the reason 2: a post is on the stone: the post");
        FortressWatch x = Due.wall("p5<1>1;p0<2>2;p23<3>3");
        int[] stones = {5, 0, 23};
        for (int post = 0; post < 3; post++) {
            Due.due("post(" + stones[post] + ", 0, 0)", x.post(stones[post], 0, 0), REFUSED);
            Due.refused("post(" + stones[post] + ", 0, 0)", x, 2, post, NOTHING);
        }
        Due.due("the posts stay three", x.account(0), 3);
        Due.due("the stone beside", x.post(22, 0, 0), 3);
    }

    private static void promise2NinePosts() {
        Due.sentence(2, "REFUSED for the reason 1: there are 9 posts: 9");
        FortressWatch x = Due.wall(Edges.EIGHT);
        Due.due("eight posts", x.account(0), 8);
        Due.due("the ninth", x.post(8, 0, 0), 8);
        Due.due("the tenth", x.post(9, 0, 0), REFUSED);
        Due.refused("the tenth", x, 1, 9, NOTHING);
        Due.due("the posts stay nine", x.account(0), 9);
        Due.due("the stone 9 is seen by none", x.seenBy(9), 0);
        x.tear(4);
        Due.due("the ninth again", x.post(9, 0, 0), 8);
        Due.due("the tenth again", x.post(10, 0, 0), REFUSED);
        Due.refused("the tenth again", x, 1, 9, NOTHING);
    }

    private static void promise2TakenBeforeNine() {
        Due.sentence(2, "REFUSED for the reason 2 or 1: the first in that order");
        FortressWatch x = Due.wall(Edges.NINE);
        for (int stone = 0; stone < 9; stone++) {
            Due.due("post(" + stone + ", 1, 1)", x.post(stone, 1, 1), REFUSED);
            Due.refused("post(" + stone + ", 1, 1)", x, 2, stone, NOTHING);
        }
    }

    private static void promise2ErrorsInOrder() {
        Due.sentence(2, "If several errors apply, the one that is listed first is returned");
        FortressWatch x = Due.wall(Edges.NINE);
        Due.due("no stone, a reach, nine posts", x.post(24, 12, 12), NONE);
        Due.due("no stone, a reach", x.post(-1, 0, -1), NONE);
        Due.due("no stone, nine posts", x.post(24, 1, 1), NONE);
        Due.due("a reach, nine posts", x.post(20, 12, 0), BAD);
        Due.due("the other reach, nine posts", x.post(20, 0, -1), BAD);
        Due.due("a reach, a taken stone", x.post(3, -1, 0), BAD);
        Due.due("the other reach, a taken stone", x.post(3, 0, 12), BAD);
        Due.refused("nothing was refused", x, NOTHING, NOTHING, NOTHING);
    }

    private static void promise2NotManned() {
        Due.sentence(2, "A post is manned or, as at first, not");
        FortressWatch x = new FortressWatch();
        x.post(7, 2, 2);
        Due.due("postOf(0, 5)", x.postOf(0, 5), 0);
        Due.due("those that are manned", x.account(1), 0);
        Due.due("the stones that are watched", x.account(2), 0);
        Due.due("man(0, 0)", x.man(0, 0), REFUSED);
    }

    private static void promise2NoBlindAngle() {
        Due.sentence(2, "A post can have a blind angle, and has none that it was not told");
        FortressWatch x = new FortressWatch();
        x.post(7, 2, 2);
        Due.due("postOf(0, 3)", x.postOf(0, 3), NOTHING);
        Due.due("postOf(0, 4)", x.postOf(0, 4), 0);
        Due.due("postOf(0, 6)", x.postOf(0, 6), 5);
        Due.due("see(0)", x.see(0), REFUSED);
    }

    private static void promise3NoSuchPost() {
        Due.sentence(3, "NONE if there is no such post");
        FortressWatch x = new FortressWatch();
        Due.due("tear(0) without posts", x.tear(0), NONE);
        x = Due.wall("p3<1>1;p4<1>1");
        for (int post : Edges.outside(0, 1)) {
            Due.due("tear(" + post + ") of two", x.tear(post), NONE);
        }
        x = Due.wall(Edges.NINE);
        for (int post : Edges.outside(0, 8)) {
            Due.due("tear(" + post + ") of nine", x.tear(post), NONE);
        }
        Due.due("those torn down", x.account(9), 0);
        Due.due("the posts stay nine", x.account(0), 9);
    }

    private static void promise3HowManyThen() {
        Due.sentence(3, "Returns how many posts there are then");
        FortressWatch x = Due.wall(Edges.NINE);
        for (int posts = 8; posts >= 0; posts--) {
            Due.due("tear(" + posts / 2 + ")", x.tear(posts / 2), posts);
            Due.due("the posts", x.account(0), posts);
        }
        Due.due("tear(0) of none", x.tear(0), NONE);
    }

    private static void promise3NumbersOfTheLater() {
        Due.sentence(3, "when one is torn down, the numbers of the later ones become 1 less");
        for (int torn = 0; torn < 9; torn++) {
            FortressWatch x = Due.wall("p20<0>8;p18<1>7;p16<2>6;p14<3>5;p12<4>4;p10<5>3;p8<6>2;p6<7>1;p4<8>0");
            x.tear(torn);
            for (int post = 0; post < 8; post++) {
                int old = post < torn ? post : post + 1;
                String line = post + "@" + (20 - 2 * old) + "<" + old + ">" + (8 - old);
                Due.due("the post " + old + " without " + torn, Due.described(x, post), line);
            }
            Due.due("the ninth", x.postOf(8, 0), NONE);
        }
    }

    private static void promise3NotMannedAnyMore() {
        Due.sentence(3, "A torn post is not manned any more");
        FortressWatch x = Due.wall("p3<0>0;p10<1>1;p20<2>2;m1;b1!10+1");
        x.tear(1);
        Due.due("those that are manned", x.account(1), 0);
        Due.due("the stones that are watched", x.account(2), 0);
        Due.due("who has its number then", Due.described(x, 1), "1@20<2>2");
        x.tear(1);
        x.post(10, 1, 1);
        Due.due("a new one on its stone, with its number", Due.described(x, 1), "1@10<1>1");
        x = Due.wall(Edges.NINE + ";m8;b8!8+8;m7");
        x.tear(8);
        Due.due("those that are manned without the ninth", x.account(1), 1);
        x.post(8, 0, 0);
        Due.due("another ninth", Due.described(x, 8), "8@8<0>0");
        x.tear(0);
        Due.due("the others stay manned", Edges.manned(x), 1 << 6);
    }

    private static void promise3StoneFree() {
        Due.sentence(3, "Tears a post down: its stone is free");
        FortressWatch x = Due.wall("p3<1>1;p4<0>0");
        x.tear(0);
        Due.due("the stones that it saw", x.seenBy(2) + x.seenBy(3), 0);
        Due.due("the post that stays", x.seenBy(4), 1);
        Due.due("post(3, 2, 2)", x.post(3, 2, 2), 1);
        Due.due("post(4, 2, 2)", x.post(4, 2, 2), REFUSED);
        Due.refused("post(4, 2, 2)", x, 2, 0, NOTHING);
    }

    private static void promise4Before() {
        Due.sentence(4, "Returns 100 times the one to the left before, and the one to the right");
        FortressWatch x = Due.wall("p9<0>0;p3<7>8");
        Due.due("before it was 0 and 0", x.reach(0, 0, 11), 0);
        Due.due("before it was 0 and 11", x.reach(0, 11, 0), 11);
        Due.due("before it was 11 and 0", x.reach(0, 11, 11), 1100);
        Due.due("before it was 11 and 11", x.reach(0, 1, 2), 1111);
        Due.due("before it was 1 and 2", x.reach(0, 0, 0), 102);
        Due.due("the other post", Due.described(x, 1), "1@3<7>8");
    }

    private static void promise4NoSuchPost() {
        Due.sentence(4, "NONE if there is no such post");
        Due.due("reach(0, 1, 1) without posts", new FortressWatch().reach(0, 1, 1), NONE);
        FortressWatch x = Due.wall("p3<1>1;p4<1>1");
        Edges.range("the reaches", x, 0, 1, NONE, (y, post) -> y.reach(post, 2, 2));
        x = Due.wall(Edges.NINE);
        Edges.range("the reaches", x, 0, 8, NONE, (y, post) -> y.reach(post, 2, 2));
        Due.due("before BAD", x.reach(9, 12, -1), NONE);
        Due.due("before BAD", x.reach(-1, -1, 12), NONE);
    }

    private static void promise4ReachOutOfRange() {
        Due.sentence(4, "BAD if a reach is out of range");
        FortressWatch x = Due.wall("p3<5>5");
        Edges.range("the reach to the left", x, 0, 11, BAD, (y, left) -> y.reach(0, left, 5));
        Due.due("the reaches then", Due.described(x, 0), "0@3<11>5");
        Edges.range("the reach to the right", x, 0, 11, BAD, (y, right) -> y.reach(0, 11, right));
        Due.due("the reaches then", Due.described(x, 0), "0@3<11>11");
    }

    private static void promise4BothSoAlready() {
        Due.sentence(4, "REFUSED for the reason 3, with the one to the left, if both are so already");
        int[][] reaches = {{0, 0}, {0, 11}, {11, 0}, {11, 11}, {4, 7}};
        for (int[] both : reaches) {
            FortressWatch x = new FortressWatch();
            x.post(9, both[0], both[1]);
            Due.due("reach(0, " + both[0] + ", " + both[1] + ")", x.reach(0, both[0], both[1]), REFUSED);
            Due.refused("reach(0, " + both[0] + ", " + both[1] + ")", x, 3, both[0], NOTHING);
            x.hour(11);
            Due.due("it is so by each light", x.reach(0, both[0], both[1]), REFUSED);
        }
    }

    private static void promise4OneSoAlready() {
        Due.sentence(4, "if both are so already, not one of them");
        FortressWatch x = Due.wall("p9<4>7");
        Due.due("the left one is so", x.reach(0, 4, 8), 407);
        Due.due("the right one is so", x.reach(0, 5, 8), 408);
        Due.due("each is as the other was", x.reach(0, 8, 5), 508);
        Due.refused("nothing was refused", x, NOTHING, NOTHING, NOTHING);
    }

    private static void promise4WithoutTheLight() {
        Due.sentence(4, "Reaches are told as they are without the light; sights by it");
        FortressWatch x = Due.wall("p9<4>7;h11");
        Due.due("reach(0, 2, 11)", x.reach(0, 2, 11), 407);
        Due.due("the reaches", x.postOf(0, 1) * 100 + x.postOf(0, 2), 211);
        Due.due("the line", Due.described(x, 0), "0@9<2>11");
        Due.due("what it sees", Edges.sight(x, 0), Edges.stones(9, 17));
        Due.due("how many it sees", x.postOf(0, 6), 9);
    }

    private static void promise4LeavesWhoIsManned() {
        Due.sentence(4, "Another reach leaves who is manned");
        FortressWatch x = Due.wall("p9<4>7;p3<1>1;m0;b0!9+2");
        x.reach(0, 1, 1);
        x.reach(1, 0, 0);
        Due.due("who is manned", Edges.manned(x), 1);
        Due.due("the blind angle", Due.described(x, 0), "0@9<1>1!9+2*");
        Due.due("the watched stones", x.account(2), 1);
    }

    private static void promise4RoundTheRing() {
        Due.sentence(4, "Reaches that go round the ring more than once see each stone once");
        FortressWatch x = Due.wall("p9<0>0;m0");
        x.reach(0, 11, 11);
        Due.due("how many it sees", x.postOf(0, 6), 23);
        Due.due("what it sees", Edges.sight(x, 0), Edges.stones(22, 20));
        for (int stone = 0; stone < 24; stone++) {
            Due.due("watched(" + stone + ")", x.watched(stone), stone == 21 ? 0 : 1);
        }
    }

    private static void promise5SeesThen() {
        Due.sentence(5, "Returns how many stones the post sees then");
        FortressWatch x = Due.wall("p9<2>3;p20<1>1");
        Due.due("no stone that it sees", x.blind(0, 13, 8), 6);
        Due.due("the last stone that it sees", x.blind(0, 12, 8), 5);
        Due.due("all but the first", x.blind(0, 8, 5), 1);
        Due.due("up to the first", x.blind(0, 0, 8), 5);
        Due.due("just what it sees", x.blind(0, 7, 6), 0);
        Due.due("more than it sees", x.blind(0, 6, 8), 0);
        Due.due("of the other post", x.blind(1, 19, 1), 2);
        x.hour(6);
        Due.due("by the light", x.blind(0, 9, 1), 3);
        x.hour(10);
        Due.due("in the dark", x.blind(0, 10, 1), 1);
    }

    private static void promise5NoSuchPost() {
        Due.sentence(5, "NONE if there is no such post");
        Due.due("blind(0, 1, 1) without posts", new FortressWatch().blind(0, 1, 1), NONE);
        FortressWatch x = Due.wall("p3<1>1;p4<1>1");
        Edges.range("the blind angle", x, 0, 1, NONE, (y, post) -> y.blind(post, 5, 2));
        x = Due.wall(Edges.NINE);
        Edges.range("the blind angle", x, 0, 8, NONE, (y, post) -> y.blind(post, 5, 2));
    }

    private static void promise5NoSuchStone() {
        Due.sentence(5, "NONE if there is no such stone");
        FortressWatch x = Due.wall("p3<1>1");
        Edges.range("the blind angle's stone", x, 0, 23, NONE, (y, stone) -> y.blind(0, stone, 2));
        Due.due("the blind angle then", Due.described(x, 0), "0@3<1>1!23+2");
    }

    private static void promise5Many() {
        Due.sentence(5, "BAD if the number is out of range");
        FortressWatch x = Due.wall("p3<11>11");
        Edges.range("the blind angle's number", x, 1, 8, BAD, (y, many) -> y.blind(0, 5, many));
        Due.due("the blind angle then", Due.described(x, 0), "0@3<11>11!5+8");
        Due.due("blind(0, 5, 1)", x.blind(0, 5, 1), 22);
    }

    private static void promise5SoAlready() {
        Due.sentence(5, "REFUSED for the reason 3, with the stone");
        int[][] angles = {{0, 1}, {23, 8}, {9, 4}};
        for (int[] angle : angles) {
            FortressWatch x = Due.wall("p9<2>3");
            x.blind(0, angle[0], angle[1]);
            Due.due("blind(0, " + angle[0] + ", " + angle[1] + ")", x.blind(0, angle[0], angle[1]), REFUSED);
            Due.refused("blind(0, " + angle[0] + ", " + angle[1] + ")", x, 3, angle[0], NOTHING);
        }
        FortressWatch x = Due.wall("p9<2>3;b0!9+2");
        Due.due("the stone alone is so", x.blind(0, 9, 3), 3);
        Due.due("the number alone is so", x.blind(0, 10, 3), 3);
        Due.due("another post's is so", x.post(3, 0, 0) + x.blind(1, 10, 3), 2);
        x.see(0);
        Due.due("it was so", x.blind(0, 10, 3), 3);
        Due.refused("nothing was refused", x, NOTHING, NOTHING, NOTHING);
    }

    private static void promise5InPlace() {
        Due.sentence(5, "A blind angle is told in place of another one");
        FortressWatch x = Due.wall("p9<2>3;b0!7+2");
        Due.due("blind(0, 11, 1)", x.blind(0, 11, 1), 5);
        Due.due("the stones of the one before", x.sees(0, 7) + x.sees(0, 8), 2);
        Due.due("the line", Due.described(x, 0), "0@9<2>3!11+1");
        Due.due("see(0)", x.see(0), 6);
        Due.due("see(0) again", x.see(0), REFUSED);
    }

    private static void promise5OwnStone() {
        Due.sentence(5, "its own stone can be in that, too");
        FortressWatch x = Due.wall("p9<1>1;p0<0>0;m0;m1");
        Due.due("blind(0, 9, 1)", x.blind(0, 9, 1), 2);
        Due.due("its own stone", x.sees(0, 9), 0);
        Due.due("those beside it", x.sees(0, 8) + x.sees(0, 10), 2);
        Due.due("no stone at all", x.blind(1, 0, 1), 0);
        Due.due("its own stone is not watched", x.watched(0), 0);
    }

    private static void promise5OnToTheRight() {
        Due.sentence(5, "a row of 1 to 8 stones, from a stone on to the right");
        int[][] angles = {{0, 8, 7}, {5, 1, 5}, {16, 8, 23}, {17, 8, 0}, {23, 1, 23}, {23, 2, 0}, {23, 8, 6},
            {20, 6, 1}};
        FortressWatch x = Due.wall("p11<11>11;p23<11>11");
        // The post on 11 does not see 23, the post on 23 does not see 11.
        for (int[] angle : angles) {
            x.blind(0, angle[0], angle[1]);
            x.blind(1, angle[0], angle[1]);
            int open = Edges.stones(0, 23) & ~Edges.stones(angle[0], angle[2]);
            String what = " with a blind angle from " + angle[0] + " to " + angle[2];
            Due.due("the post on 11" + what, Edges.sight(x, 0), open & ~(1 << 23));
            Due.due("the post on 23" + what, Edges.sight(x, 1), open & ~(1 << 11));
        }
    }

    private static void promise5NoneBeforeBad() {
        Due.sentence(5, "If several errors apply, the one that is listed first is returned");
        FortressWatch x = Due.wall("p9<1>1");
        Due.due("no post, no number", x.blind(1, 5, 0), NONE);
        Due.due("no stone, no number", x.blind(0, 24, 9), NONE);
        Due.due("no post, no stone", x.blind(-1, -1, 1), NONE);
        Due.due("none of them", x.blind(1, 24, 9), NONE);
    }

    private static void promise6SeesThen() {
        Due.sentence(6, "Returns how many stones the post sees then");
        FortressWatch x = Due.wall("p9<2>3;b0!7+6;p0<11>11;b1!23+8");
        Due.due("see(0)", x.see(0), 6);
        Due.due("what it sees", Edges.sight(x, 0), Edges.stones(7, 12));
        x.hour(8);
        Due.due("see(1) by the light", x.see(1), 19);
        Due.due("the line", Due.described(x, 1), "1@0<11>11");
        Due.due("postOf(1, 3)", x.postOf(1, 3), NOTHING);
        Due.due("postOf(1, 4)", x.postOf(1, 4), 0);
    }

    private static void promise6NoSuchPost() {
        Due.sentence(6, "NONE if there is no such post");
        Due.due("see(0) without posts", new FortressWatch().see(0), NONE);
        FortressWatch x = Due.wall("p3<1>1;p4<1>1");
        Edges.range("no blind angle", x, 0, 1, NONE, FortressWatch::see);
        x = Due.wall(Edges.NINE + ";b8!1+1");
        Edges.range("no blind angle", x, 0, 8, NONE, FortressWatch::see);
        Due.due("the ninth's blind angle", x.postOf(8, 4), 0);
    }

    private static void promise6NoBlindAngle() {
        Due.sentence(6, "REFUSED for the reason 5: it has no blind angle: the post");
        FortressWatch x = Due.wall(Edges.NINE + ";b8!20+1;b3!3+1");
        for (int post = 0; post < 9; post++) {
            Due.due("see(" + post + ")", x.see(post), post == 3 || post == 8 ? 1 : REFUSED);
            Due.due("see(" + post + ") then", x.see(post), REFUSED);
            Due.refused("see(" + post + ") then", x, 5, post, NOTHING);
        }
    }

    private static void promise7WatchedThen() {
        Due.sentence(7, "Returns how many stones are watched then");
        FortressWatch x = Due.wall("p9<2>2;p11<2>2;p0<11>11;p12<0>0;p5<0>0;b4!5+1");
        Due.due("a post that sees none", x.man(4, 1), 0);
        Due.due("five stones", x.man(0, 1), 5);
        Due.due("an overlap counts once", x.man(1, 1), 7);
        Due.due("all of them", x.man(2, 1), 24);
        Due.due("it was watched before", x.man(3, 1), 24);
        Due.due("who sees the one", x.man(1, 0), 24);
        Due.due("without it", x.man(3, 0), 23);
        x.hour(11);
        Due.due("by the light", x.man(2, 0), 1);
        Due.due("none", x.man(0, 0), 0);
    }

    private static void promise7NoSuchPost() {
        Due.sentence(7, "NONE if there is no such post");
        Due.due("man(0, 1) without posts", new FortressWatch().man(0, 1), NONE);
        FortressWatch x = Due.wall("p3<1>1;p4<1>1");
        Edges.range("the sentry", x, 0, 1, NONE, (y, post) -> y.man(post, 1));
        x = Due.wall(Edges.NINE);
        Edges.range("the sentry", x, 0, 8, NONE, (y, post) -> y.man(post, 1));
        Due.due("who is manned", Edges.manned(x), 1 + 256);
        Due.due("before BAD", x.man(9, 2), NONE);
        Due.due("before BAD", x.man(-1, -1), NONE);
    }

    private static void promise7Neither() {
        Due.sentence(7, "BAD if isManned is neither");
        FortressWatch x = Due.wall("p3<1>1");
        x.man(0, 1);
        Edges.range("whether it is manned", x, 0, 1, BAD, (y, isManned) -> y.man(0, isManned));
        Due.due("it is manned then", x.postOf(0, 5), 1);
        Due.due("3 is neither", x.man(0, 3), BAD);
    }

    private static void promise7SoAlready() {
        Due.sentence(7, "REFUSED for the reason 3: 1 for a post that is manned, and 0 for one that is not");
        FortressWatch x = Due.wall("p3<1>1;p9<1>1;p15<1>1;m2");
        Due.due("man(1, 0)", x.man(1, 0), REFUSED);
        Due.refused("man(1, 0)", x, 3, 0, NOTHING);
        Due.due("man(2, 1)", x.man(2, 1), REFUSED);
        Due.refused("man(2, 1)", x, 3, 1, NOTHING);
        Due.due("who is manned", Edges.manned(x), 4);
    }

    private static void promise8Before() {
        Due.sentence(8, "Returns the one before");
        FortressWatch x = new FortressWatch();
        int[] hours = {11, 0, 1, 10, 5, 6, 11};
        int before = 0;
        for (int hour : hours) {
            Due.due("hour(" + hour + ")", x.hour(hour), before);
            Due.due("the hour", x.account(7), hour);
            before = hour;
        }
    }

    private static void promise8OutOfRange() {
        Due.sentence(8, "BAD if it is out of range");
        FortressWatch x = new FortressWatch();
        x.hour(5);
        Edges.range("the hour", x, 0, 11, BAD, FortressWatch::hour);
        Due.due("the hour then", x.account(7), 11);
    }

    private static void promise8SoAlready() {
        Due.sentence(8, "REFUSED for the reason 3: it is so already: the number that was told");
        FortressWatch x = new FortressWatch();
        for (int hour = 0; hour <= 11; hour++) {
            x.hour(hour);
            Due.due("hour(" + hour + ")", x.hour(hour), REFUSED);
            Due.refused("hour(" + hour + ")", x, 3, hour, NOTHING);
        }
    }

    private static void promise8Less() {
        Due.sentence(8, "reaches are less: by 0 in the hours 0 to 5, by 1 in 6 and 7, by 2 in 8 and 9, "
            + "by 3 in 10 and 11");
        FortressWatch x = Due.wall("p9<4>7");
        for (int hour = 0; hour <= 11; hour++) {
            x.hour(hour);
            int due = Edges.stones(5 + LESS[hour], 16 - LESS[hour]);
            Due.due("what is seen in the hour " + hour, Edges.sight(x, 0), due);
        }
    }

    private static void promise8NoneBelowZero() {
        Due.sentence(8, "but none is below 0");
        for (int hour = 0; hour <= 11; hour++) {
            FortressWatch x = Due.wall("p9<0>0;p10<1>1;p11<2>2;p12<3>3;p13<4>4;p14<0>4;p15<4>0");
            x.hour(hour);
            for (int post = 0; post <= 4; post++) {
                int due = 1 + 2 * Math.max(0, post - LESS[hour]);
                Due.due("a reach of " + post + " in the hour " + hour, x.postOf(post, 6), due);
            }
            Due.due("to the right alone", x.postOf(5, 6), 5 - LESS[hour]);
            Due.due("to the left alone", x.postOf(6, 6), 5 - LESS[hour]);
            Due.due("its own stone", x.sees(0, 9), 1);
        }
    }

    private static void promise8LeavesWhoIsManned() {
        Due.sentence(8, "Another hour leaves who is manned");
        FortressWatch x = Due.wall("p0<11>11;p12<0>0;p3<2>2;b2!3+1;w;m2;l0");
        x.hour(11);
        Due.due("who is manned", Edges.manned(x), 6);
        Due.due("the post with a blind angle", Due.described(x, 2), "2@3<2>2!3+1*");
        Due.due("the watched stones", x.account(2), 1);
        x.hour(0);
        Due.due("who is manned again", Edges.manned(x), 6);
        Due.due("the watched stones again", x.account(2), 5);
    }

    private static void promise9HowMany() {
        Due.sentence(9, "Returns how many posts it has");
        Due.due("two", Due.wall("p0<11>11;p12<0>0;p6<2>2").watch(), 2);
        Due.due("three", Due.wall("p0<4>3;p8<4>3;p16<4>3").watch(), 3);
        Due.due("nine", Due.wall("p0<0>2;p3<0>2;p6<0>2;p9<0>2;p12<0>2;p15<0>2;p18<0>2;p21<0>0;p23<1>0").watch(), 9);
    }

    private static void promise9NoOthers() {
        Due.sentence(9, "To man the watch told mans its posts, and no others");
        FortressWatch x = Due.wall("p3<2>2;p0<11>11;p6<2>2;p12<0>0;m0;m2;m3");
        Due.due("watch()", x.watch(), 2);
        Due.due("who is manned", Edges.manned(x), 2 + 8);
        Due.due("the watched stones", x.account(2), 24);
        Due.due("the watch told", x.fewest(), 2 + 8);
    }

    private static void promise9SoAlreadyIsAChange() {
        Due.sentence(9, "also if just these are manned already, which is a change, too");
        FortressWatch x = Due.wall("p0<11>11;p12<0>0;m0;m1");
        Due.due("watch()", x.watch(), 2);
        Due.due("the changes that can be undone", x.account(12), 5);
        Due.due("how often a watch was manned", x.account(10), 1);
        Due.due("watch() again", x.watch(), 2);
        Due.due("the changes that can be undone", x.account(12), 6);
        Due.due("how often a watch was manned", x.account(10), 2);
        Due.due("undo()", x.undo(), 5);
        Due.due("who is manned", Edges.manned(x), 3);
        Due.due("how often a watch was manned", x.account(10), 1);
    }

    private static void promise9LowestOfSeveral() {
        Due.sentence(9, "of several, the one told is the lowest as a number");
        FortressWatch x = Due.wall("p13<0>0;p0<11>11;p12<0>0;p1<11>11;p11<1>1");
        // The full ones with two posts are 1 and 2 (6), 0 and 3 (9), 1 and 3 (10), 1 and 4 (18).
        Due.due("fewest()", x.fewest(), 2 + 4);
        Due.due("watch()", x.watch(), 2);
        Due.due("who is manned", Edges.manned(x), 2 + 4);
    }

    private static void promise9NoFullWatch() {
        Due.sentence(9, "REFUSED for the reason 4: there is no full watch: how many stones no post sees");
        FortressWatch x = new FortressWatch();
        Due.due("watch() without posts", x.watch(), REFUSED);
        Due.refused("watch() without posts", x, 4, 24, NOTHING);
        x = Due.wall("p0<11>11;p3<2>2;m1");
        Due.due("watch() with one stone that no post sees", x.watch(), REFUSED);
        Due.refused("watch() with one stone that no post sees", x, 4, 1, NOTHING);
        Due.due("who is manned", Edges.manned(x), 2);
        Due.due("how often a watch was manned", x.account(10), 0);
        Due.due("post(12, 0, 0)", x.post(12, 0, 0), 2);
        Due.due("watch() without such a stone", x.watch(), 2);
    }

    private static void promise9AtTheHour() {
        Due.sentence(9, "each stone is seen by one of its posts, at the hour that it is");
        FortressWatch x = Due.wall("p0<11>11;p12<3>3;p6<3>3;p18<3>3");
        int[] answers = {2, 2, 2, 2, 2, 2, 2, 2, REFUSED, REFUSED, REFUSED, REFUSED};
        for (int hour = 0; hour <= 11; hour++) {
            x.hour(hour);
            Due.due("watch() in the hour " + hour, x.watch(), answers[hour]);
        }
        // The post on 0 sees 16 to 8 then, the others see their own stones: 9 to 15 are left, but for 12.
        Due.refused("watch() in the hour 11", x, 4, 6, NOTHING);
    }
}
