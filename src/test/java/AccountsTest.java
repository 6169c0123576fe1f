/** Promises 31 to 36: accounts, undo, and the snapshot. */
public final class AccountsTest {
    private static final int BAD = FortressWatch.BAD;
    private static final int REFUSED = FortressWatch.REFUSED;
    private static final int NOTHING = FortressWatch.NOTHING;

    public static void main(String[] args) {
        promise31Account();
        promise31Longest();
        promise32IsWell();
        promise33Mean();
        promise34Undo();
        promise34EachChange();
        promise34EachCall();
        promise34AtMostEight();
        promise35Save();
        promise36Restore();
        Due.end();
    }

    private static void accounts(String what, FortressWatch x, int... due) {
        for (int n = 0; n < due.length; n++) {
            Due.due(what + ": account(" + n + ")", x.account(n), due[n]);
        }
    }

    private static void promise31Account() {
        FortressWatch x = Due.wall("p0<1>2;p2<1>1;p12<0>0;p20<0>2;m0;m1");
        accounts("two manned", x, 4, 2, 5, 2, 1, 19, 15, 0, 4, 0, 0, 0, 6);
        x.man(2, 1);
        x.hour(9);
        Due.append(x, "w;");
        accounts("in the dark", x, 4, 3, 3, 0, 3, 11, 20, 9, 4, 0, 0, 2, 8);
        x.tear(3);
        accounts("one torn down", x, 3, 3, 3, 0, 3, 11, 21, 9, 4, 1, 0, 2, 8);
        Due.due("account(-1)", x.account(-1), BAD);
        Due.due("account(13)", x.account(13), BAD);
        Due.due("account(MIN)", x.account(Integer.MIN_VALUE), BAD);
        Due.due("account(MAX)", x.account(Integer.MAX_VALUE), BAD);
    }

    private static void promise31Longest() {
        FortressWatch x = Due.wall("p0<11>11;p12<0>0;p3<5>5;m0;m2");
        accounts("a gap of one", x, 3, 2, 23, 11, 1, 1, 0);
        x.watch();
        accounts("no gap", x, 3, 2, 24, 0, 0, 0, 0, 0, 3, 0, 1);
        x = Due.wall("p0<0>0;p2<0>0;p4<0>0;p6<0>0;p8<0>0;p10<0>0;p12<0>0;p14<0>0;p16<0>0;"
            + "m0;m1;m2;m3;m4;m5;m6;m7;m8");
        accounts("nine gaps", x, 9, 9, 9, 0, 9, 7, 15);
        x = Due.wall("p4<0>11;b0!5+1;p10<0>0;p0<11>0;b2!23+1;m0;m2;b0!6+1;b2!22+1");
        // 4, 5, 7 to 15 and 13 to 21, 23, 0 are watched.
        accounts("gaps by blind angles", x, 3, 2, 19, 3, 3, 3, 5);
    }

    private static void promise32IsWell() {
        FortressWatch x = new FortressWatch();
        Due.due("isWell() without posts", x.isWell(), 1);
        x = Due.wall("p0<11>11;p12<3>3;p5<4>4;b0!3+2;m0;m2");
        Due.due("isWell()", x.isWell(), 1);
        x.watch();
        Due.due("isWell() of a full watch", x.isWell(), 1);
        x.hour(10);
        Due.due("isWell() in the dark", x.isWell(), 1);
        Due.due("fewest() in the dark", x.fewest(), NOTHING);
    }

    private static void promise33Mean() {
        FortressWatch x = new FortressWatch();
        Due.due("mean() of none", x.mean(), 0);
        x = Due.wall("p0<0>0;p1<11>11;p2<11>11;p3<11>11;p4<11>11;p5<11>11;p6<11>11;p7<11>11;p8<11>11");
        Due.due("mean() of none manned", x.mean(), 0);
        x.man(0, 1);
        Due.due("mean() of 1", x.mean(), Float.floatToIntBits(1f / 24f));
        for (int post = 1; post < 9; post++) {
            x.man(post, 1);
            Due.due("mean() of " + post, x.mean(), Float.floatToIntBits((float) (1 + 23 * post) / 24f));
        }
        x.reach(0, 3, 4);
        Due.due("mean() of eight each", x.mean(), Float.floatToIntBits(8f));
        x = Due.wall("p1<11>11;p2<11>11;p0<0>1;m0;m1;m2");
        Due.due("mean() of two each", x.mean(), Float.floatToIntBits(2f));
        x = Due.wall("p0<0>0;p1<11>11;m0;m1");
        Due.due("mean() of one each", x.mean(), Float.floatToIntBits(1f));
        x.blind(1, 5, 8);
        Due.due("mean() of a blind angle", x.mean(), Float.floatToIntBits(16f / 24f));
        x.hour(11);
        Due.due("mean() in the dark", x.mean(), Float.floatToIntBits(13f / 24f));
    }

    private static void promise34Undo() {
        FortressWatch x = new FortressWatch();
        Due.due("undo() of nothing", x.undo(), NOTHING);
        x.post(4, 2, 3);
        x.man(0, 1);
        x.reach(0, 5, 5);
        x.reach(0, 5, 5);
        x.man(0, 3);
        Due.due("what is refused cannot be undone", x.account(12), 3);
        Due.due("undo()", x.undo(), 2);
        Due.due("the reaches of before", Due.described(x, 0), "0@4<2>3*");
        Due.due("undo()", x.undo(), 1);
        Due.due("not manned, as before", Due.described(x, 0), "0@4<2>3");
        Due.due("undo()", x.undo(), 0);
        Due.due("no post", x.account(0), 0);
        Due.due("none built", x.account(8), 0);
        Due.due("undo()", x.undo(), NOTHING);
        x.post(1, 1, 1);
        Due.append(x, "m0;h");
        x.undo();
        Due.due("the text stays", x.account(11), 4);
        Due.due("an undo is no change", x.account(12), 0);
    }

    private static void promise34EachChange() {
        String start = "p0<11>11;p12<1>1;b1!13+1;m1";
        String[] changes = {"p5<1>1", "-0", "-1", "r1<2>2", "b0!3+3", "n1", "m0", "l1", "h7", "h1;p9<0>0;-0", "w"};
        for (String change : changes) {
            FortressWatch x = Due.wall(start);
            Due.due("a text of " + change, Due.read(x, change), change.split(";").length);
            Due.due("undo() of " + change, x.undo(), 4);
            Due.due("the first post again", Due.described(x, 0), "0@0<11>11");
            Due.due("the second post again", Due.described(x, 1), "1@12<1>1!13+1*");
            accounts("undone " + change, x, 2, 1, 2, 0, 1, 22, 0, 0, 2, 0, 0, 0, 4);
        }
    }

    private static void promise34EachCall() {
        FortressWatch x = Due.wall("p0<11>11;p12<1>1;b1!13+1;m1");
        String[] walls = new String[9];
        for (int n = 0; n < walls.length; n++) {
            walls[n] = Edges.wall(x);
            Due.due("the change " + n, change(x, n) >= 0 ? 1 : 0, 1);
            Due.due("the changes", x.account(12), Math.min(8, 5 + n));
        }
        for (int n = walls.length - 1; n > 0; n--) {
            Due.due("undo() of the change " + n, x.undo(), n - 1);
            Due.due("the wall before the change " + n, Edges.wall(x), walls[n]);
        }
        Due.due("undo()", x.undo(), NOTHING);
    }

    private static int change(FortressWatch x, int n) {
        switch (n) {
            case 0: return x.post(5, 1, 1);
            case 1: return x.tear(0);
            case 2: return x.reach(0, 2, 2);
            case 3: return x.see(0);
            case 4: return x.blind(1, 0, 1);
            case 5: return x.man(0, 0);
            case 6: return x.hour(3);
            case 7: return x.post(0, 11, 11);
            default: return x.watch();
        }
    }

    private static void promise34AtMostEight() {
        FortressWatch x = new FortressWatch();
        for (int hour = 1; hour <= 11; hour++) {
            x.hour(hour);
            Due.due("the changes", x.account(12), Math.min(8, hour));
        }
        for (int n = 1; n <= 8; n++) {
            Due.due("undo()", x.undo(), 8 - n);
            Due.due("the hour", x.account(7), 11 - n);
        }
        Due.due("the ninth undo()", x.undo(), NOTHING);
        Due.due("the hour stays", x.account(7), 3);
        x.hour(8);
        Due.due("a change after undo", x.account(12), 1);
        Due.due("a refused text keeps them", Due.read(x, "h1;h2;h3;h4;h5;h6;h7;h8;h9;h9"), REFUSED);
        Due.due("undo() after a refused text", x.undo(), 0);
        Due.due("the hour", x.account(7), 3);
    }

    private static void promise35Save() {
        FortressWatch x = new FortressWatch();
        Due.due("save() without posts", x.save(), 0);
        x.post(3, 1, 1);
        x.post(9, 2, 2);
        Due.due("save() of two", x.save(), 2);
        Due.due("save() is no change", x.account(12), 2);
        Due.due("undo() behind save", x.undo(), 1);
        Due.due("the snapshot stays as it was", x.restore(), 2);
        x.tear(0);
        Due.due("save() in place of the earlier", x.save(), 1);
        x.tear(0);
        Due.due("restore()", x.restore(), 1);
        Due.due("the latest snapshot", Due.described(x, 0), "0@9<2>2");
    }

    private static void promise36Restore() {
        FortressWatch x = new FortressWatch();
        Due.due("restore() of nothing", x.restore(), NOTHING);
        x = Due.wall("p0<11>11;p12<1>1;b1!13+1;m1;h2;w;p3<1>1;-2");
        x.save();
        Due.read(x, "-0;n0;l0;h9;p4<1>1;p5<2>2;m1");
        x.watch();
        Due.append(x, "m0");
        x.hour(9);
        Due.due("restore()", x.restore(), 2);
        accounts("restored", x, 2, 2, 24, 1, 0, 0, 0, 2, 3, 1, 1, 2, 0);
        Due.due("the first post again", Due.described(x, 0), "0@0<11>11*");
        Due.due("the second post again", Due.described(x, 1), "1@12<1>1!13+1*");
        Due.due("nothing can be undone then", x.undo(), NOTHING);
        Due.due("the text stays", x.read(), REFUSED);
        Due.refused("the reasons stay and go on", x, 3, 1, 0);
        x.tear(1);
        Due.due("a change can be undone again", x.account(12), 1);
        Due.due("the snapshot stays", x.restore(), 2);
        Due.due("a second time", Due.described(x, 1), "1@12<1>1!13+1*");
        x.man(0, 0);
        Due.due("undo() after restore and a change", x.undo(), 0);
        Due.due("the change is undone", x.postOf(0, 5), 1);
    }
}
