import java.util.Arrays;

/** Boundary cases, sentence by sentence: promises 23 to 32, acts, what is undone, what is kept. */
public final class BoundsActTest {
    private static final String TWO = "hollow h holds 60 at 0;hollow i holds 30 at 9;owner a;owner b;";

    public static void main(String[] args) {
        nights();
        nightsNotBeyond9999();
        chance();
        chanceNotBeyond9999();
        chanceIsOneAct();
        belowDrought();
        drawsGoRound();
        moveCarts();
        moveRoom();
        moveTest();
        moveAnotherHollow();
        moveNoneSuch();
        pourTwo();
        pourMost();
        pourNoneSuch();
        partBarrels();
        partFirstGone();
        partNoneSuch();
        payBits();
        payLessOrMore();
        payMostDebt();
        payNoneSuch();
        strikeOwners();
        strikeLeast();
        strikeNoneSuch();
        undoNone();
        undoTwenty();
        undoGoesRound();
        undoOfEachAct();
        undoOfAllThereMayBe();
        refusedIsNoAct();
        seed();
        keptNoneSuch();
        keptForty();
        keptGoesRound();
        keptComesBack();
        Check.finish();
    }

    /** How many were refused so far of the object that fresh() made last. */
    private static int[] before = new int[6];

    private static void refused(LakeMarket x, int kind, String call, int answer) {
        Check.due(call, answer, -1);
        before[kind]++;
        // not 0, which counts what these tests ask of the tape
        for (int other = 1; other < 6; other++) {
            Check.due("status(" + other + ") behind " + call, x.status(other), before[other]);
        }
    }

    private static LakeMarket fresh(String text) {
        before = new int[6];
        return Check.market(text);
    }

    private static LakeMarket freshAt(int night, String text) {
        before = new int[6];
        return Check.at(night, text);
    }

    private static void nights() {
        Check.sentence("n NIGHTS go by (1 .. 100), without DRAWS: how many BARRELS leaked; NONE, refused (2), when it can't be (beyond NIGHT 9999).");
        LakeMarket x = fresh("hollow h holds 999 at 0;owner a;lake l has 999 in h of a;leaks 1;");
        int[] none = {0, -1, 101, 102, Integer.MIN_VALUE, Integer.MAX_VALUE};
        for (int n : none) {
            refused(x, 2, "nights(" + n + ")", x.nights(n));
        }
        Check.due("night", x.has(3), 0);
        Check.due("1", x.nights(1), 1);
        Check.due("2", x.nights(2), 2);
        Check.due("99", x.nights(99), 99);
        Check.due("100", x.nights(100), 100);
        Check.due("night", x.has(3), 202);
        Check.due("seed", x.has(10), 1);
        Check.due("acts", x.has(9), 4);
        LakeMarket goes = fresh("hollow h holds 999 at 0;owner a;lake l has 50 in h of a;leaks 1;");
        Check.due("no more than there are", goes.nights(100), 50);
        Check.due("nothing is left", goes.nights(1), 0);
    }

    private static void nightsNotBeyond9999() {
        Check.sentence("then the NIGHT is one more (9999 at most).");
        int[] froms = {9898, 9899, 9900, 9998, 9999};
        for (int from : froms) {
            LakeMarket x = freshAt(from, TWO + "lake l has 9 in h of a;");
            int most = Math.min(100, 9999 - from);
            refused(x, 2, "from " + from + " one night too many", x.nights(most + 1));
            Check.due("night", x.has(3), from);
            Check.due("acts", x.has(9), 0);
            if (most > 1) {
                Check.due("one fewer", x.nights(most - 1), 0);
                Check.due("night", x.has(3), from + most - 1);
                Check.yes("undo", x.undo());
            }
            if (most > 0) {
                Check.due("just so many", x.nights(most), 0);
            }
            Check.due("night", x.has(3), from + most);
            if (from + most == 9999) {
                refused(x, 2, "one beyond 9999", x.nights(1));
                refused(x, 2, "100 beyond 9999", x.nights(100));
            }
        }
    }

    private static void chance() {
        Check.sentence("n NIGHTS by the seed (1 .. 100), one ACT: how many droughts there were; NONE, refused (2), when it can't be.");
        LakeMarket x = fresh(TWO + "drought 100;");
        int[] none = {0, -1, 101, 102, Integer.MIN_VALUE, Integer.MAX_VALUE};
        for (int n : none) {
            refused(x, 2, "chance(" + n + ")", x.chance(n));
        }
        Check.due("no draw", x.has(10), 1);
        Check.due("night", x.has(3), 0);
        Check.due("acts", x.has(9), 0);
        Check.due("1", x.chance(1), 1);
        Check.due("2", x.chance(2), 2);
        Check.due("99", x.chance(99), 99);
        Check.due("100", x.chance(100), 100);
        Check.due("night", x.has(3), 202);
    }

    private static void chanceNotBeyond9999() {
        Check.sentence("then the NIGHT is one more (9999 at most).");
        int[] froms = {9898, 9899, 9900, 9998, 9999};
        for (int from : froms) {
            LakeMarket x = freshAt(from, TWO + "drought 100;");
            int most = Math.min(100, 9999 - from);
            refused(x, 2, "from " + from + " one night too many", x.chance(most + 1));
            Check.due("no draw", x.has(10), 1);
            if (most > 0) {
                Check.due("just so many", x.chance(most), most);
            }
            Check.due("night", x.has(3), from + most);
        }
    }

    private static void chanceIsOneAct() {
        Check.sentence("n NIGHTS by the seed (1 .. 100), one ACT");
        LakeMarket x = fresh(TWO + "lake l has 9 in h of a;leaks 1;");
        x.chance(5);
        Check.due("acts", x.has(9), 1);
        Check.yes("undo", x.undo());
        Check.due("night", x.has(3), 0);
        Check.due("barrels", x.has(5), 9);
        Check.no("no more", x.undo());
    }

    private static void belowDrought() {
        Check.sentence("BY THE SEED it begins with a DRAW of 100: below drought it is one in that NIGHT (without that there is none).");
        // seed 0 becomes 12345, and floor(12345 / 64) mod 100 is 92
        int[] droughts = {91, 92, 93};
        for (int drought : droughts) {
            LakeMarket x = fresh(TWO + "lake l has 9 in h of a;leaks drought;drought " + drought + ";");
            x.seed(0);
            Check.due("drawn 92, drought " + drought, x.chance(1), drought > 92 ? 1 : 0);
            Check.due("barrels", x.lake(0, 0), drought > 92 ? 8 : 9);
        }
        LakeMarket none = fresh(TWO + "lake l has 9 in h of a;leaks drought;drought 100;");
        Check.due("without the seed there is none", none.nights(9), 0);
    }

    private static void drawsGoRound() {
        Check.sentence("A DRAW of m: x (the seed) becomes (1103515245 x + 12345) mod 2 to the 31; floor(x / 64) mod m.");
        int[] seeds = {0, 1, 2, 3, 1 << 16, (1 << 30) - 1, 1 << 30, Integer.MAX_VALUE - 1, Integer.MAX_VALUE};
        for (int seed : seeds) {
            LakeMarket x = fresh(TWO + "drought 50;");
            x.seed(seed);
            long due = seed;
            for (int i = 0; i < 5; i++) {
                due = (1103515245L * due + 12345) % (1L << 31);
                Check.due("drought by seed " + seed, x.chance(1), due / 64 % 100 < 50 ? 1 : 0);
                Check.due("seed " + seed + " becomes", x.has(10), due);
            }
        }
    }

    private static void moveCarts() {
        Check.sentence("MOVED into another HOLLOW is a LAKE, if it has no more than carts, there is ROOM, and the TEST of may holds");
        for (int barrels = 9; barrels <= 11; barrels++) {
            LakeMarket x = fresh(TWO + "lake l has " + barrels + " in h of a;carts 10;");
            Check.due("carts 10 for " + barrels, x.move(0, 1) ? 1 : 0, barrels <= 10 ? 1 : 0);
            Check.due("refused", x.status(3), barrels <= 10 ? 0 : 1);
            Check.due("lies", x.lake(0, 1), barrels <= 10 ? 1 : 0);
        }
    }

    private static void moveRoom() {
        Check.sentence("if it has no more than carts, there is ROOM");
        for (int barrels = 29; barrels <= 31; barrels++) {
            LakeMarket x = fresh(TWO + "lake l has " + barrels + " in h of a;");
            Check.due("room of 30 for " + barrels, x.move(0, 1) ? 1 : 0, barrels <= 30 ? 1 : 0);
            Check.due("room then", x.hollow(1, 2), barrels <= 30 ? 30 - barrels : 30);
        }
        for (int barrels = 9; barrels <= 11; barrels++) {
            LakeMarket x = fresh(TWO + "lake l has " + barrels + " in h of a;lake m has 20 in i of b;");
            Check.due("room of 10 for " + barrels, x.move(0, 1) ? 1 : 0, barrels <= 10 ? 1 : 0);
        }
        LakeMarket full = fresh(TWO + "lake l has 1 in h of a;lake m has 30 in i of b;");
        Check.no("no room at all", full.move(0, 1));
    }

    private static void moveTest() {
        Check.sentence("and the TEST of may holds (without it always).");
        Check.yes("without", fresh(TWO + "lake l has 9 in h of a;").move(0, 1));
        Check.yes("holds", fresh(TWO + "lake l has 9 in h of a;may all;").move(0, 1));
        LakeMarket x = fresh(TWO + "lake l has 9 in h of a;may not all;");
        Check.no("does not hold", x.move(0, 1));
        Check.due("refused", x.status(3), 1);
        for (int night = 1; night <= 3; night++) {
            LakeMarket y = fresh(TWO + "lake l has 9 in h of a;may night=2;");
            y.nights(night);
            Check.due("holds in night 2 alone: " + night, y.move(0, 1) ? 1 : 0, night == 2 ? 1 : 0);
        }
    }

    private static void moveAnotherHollow() {
        Check.sentence("A LAKE is MOVED into another HOLLOW: true; false, refused (3), when that can't be.");
        LakeMarket x = fresh(TWO + "lake l has 9 in h of a;");
        Check.no("into its own", x.move(0, 0));
        Check.due("refused", x.status(3), 1);
        Check.yes("into another one", x.move(0, 1));
        Check.no("into its own", x.move(0, 1));
        Check.yes("back", x.move(0, 0));
        Check.due("acts", x.has(9), 2);
        // twice in one night, each by itself no more than carts
        LakeMarket y = fresh(TWO + "lake l has 9 in h of a;lake m has 9 in h of a;carts 9;");
        Check.yes("the first", y.move(0, 1));
        Check.yes("the second", y.move(1, 1));
    }

    private static void moveNoneSuch() {
        Check.sentence("false, refused (3), when that can't be.");
        LakeMarket x = fresh(TWO + "lake l has 1 in h of a;leaks 1;");
        int[] lakes = {-1, 1, 8, Integer.MIN_VALUE, Integer.MAX_VALUE};
        for (int lake : lakes) {
            refused(x, 3, "move(" + lake + ", 1)", x.move(lake, 1) ? 1 : -1);
        }
        int[] hollows = {-1, 2, 8, 255, Integer.MIN_VALUE, Integer.MAX_VALUE};
        for (int hollow : hollows) {
            refused(x, 3, "move(0, " + hollow + ")", x.move(0, hollow) ? 1 : -1);
        }
        Check.yes("one barrel is enough", x.move(0, 1));
        x.nights(1);
        refused(x, 3, "one that is gone", x.move(0, 0) ? 1 : -1);
        refused(x, 3, "one that is gone", x.move(0, -1) ? 1 : -1);
    }

    private static void pourTwo() {
        Check.sentence("POURED TOGETHER are two LAKES of one OWNER in one HOLLOW: the first one has all, the second one is GONE.");
        LakeMarket x = fresh(TWO + "lake k has 5 in h of a;lake l has 6 in h of a;lake m has 7 in h of b;lake n has 8 in i of a;");
        refused(x, 3, "it and itself", x.pour(0, 0));
        refused(x, 3, "of another owner", x.pour(0, 2));
        refused(x, 3, "of another owner", x.pour(2, 0));
        refused(x, 3, "in another hollow", x.pour(0, 3));
        refused(x, 3, "in another hollow", x.pour(3, 0));
        refused(x, 3, "of another one in another one", x.pour(2, 3));
        Check.due("one owner, one hollow", x.pour(0, 1), 11);
        Check.due("the second one", x.lake(1, 0), 0);
        Check.due("lies nowhere", x.lake(1, 1), -1);
        Check.due("nobody's", x.lake(1, 2), -1);
        Check.due("all barrels are there", x.has(5), 26);
        refused(x, 3, "one that is gone", x.pour(0, 1));
        refused(x, 3, "into one that is gone", x.pour(1, 0));
        refused(x, 3, "one that is gone and itself", x.pour(1, 1));
    }

    private static void pourMost() {
        Check.sentence("NONE, refused (3), when that can't be, or it would have more than 999.");
        // no hollow holds more than 999, so that more never lie in one
        String text = "hollow h holds 999 at 0;owner a;lake k has 998 in h of a;lake l has 1 in h of a;";
        Check.due("999", fresh(text).pour(0, 1), 999);
        Check.due("999, the other way", fresh(text).pour(1, 0), 999);
        Check.due("998", fresh(text.replace("998", "997")).pour(0, 1), 998);
        LakeMarket x = fresh(text);
        Check.no("1000 can't lie there", Check.onWith(x, 2, 999));
    }

    private static void pourNoneSuch() {
        Check.sentence("NONE, refused (3), when that can't be, or it would have more than 999.");
        LakeMarket x = fresh(TWO + "lake k has 5 in h of a;lake l has 6 in h of a;");
        int[] none = {-1, 2, 8, Integer.MIN_VALUE, Integer.MAX_VALUE};
        for (int lake : none) {
            refused(x, 3, "pour(0, " + lake + ")", x.pour(0, lake));
            refused(x, 3, "pour(" + lake + ", 0)", x.pour(lake, 0));
            refused(x, 3, "pour(" + lake + ", " + lake + ")", x.pour(lake, lake));
        }
        Check.due("acts", x.has(9), 0);
        Check.due("the last one into the first", x.pour(0, 1), 11);
    }

    private static void partBarrels() {
        Check.sentence("so many BARRELS of it, fewer than it has, become those of a LAKE that is GONE, in the same HOLLOW, of the same OWNER.");
        int[] counts = {-1, 0, 1, 2, 10, 11, 12, Integer.MIN_VALUE, Integer.MAX_VALUE};
        for (int n : counts) {
            LakeMarket x = fresh(TWO + "lake k has 5 in h of a;lake l has 6 in h of a;");
            x.pour(1, 0);
            boolean can = n >= 1 && n <= 10;
            int answer = x.part(1, n);
            Check.due("part " + n + " of 11", answer, can ? 0 : -1);
            Check.due("refused", x.status(3), can ? 0 : 1);
            Check.due("what is left", x.lake(1, 0), can ? 11 - n : 11);
            Check.due("what was parted", x.lake(0, 0), can ? n : 0);
            Check.due("in the same hollow", x.lake(0, 1), can ? 0 : -1);
            Check.due("of the same owner", x.lake(0, 2), can ? 0 : -1);
            Check.due("acts", x.has(9), can ? 2 : 1);
        }
        LakeMarket one = fresh(TWO + "lake k has 1 in h of a;lake l has 2 in i of b;leaks if(has=1,1,0);");
        one.nights(1);
        Check.due("1 of 2", one.part(1, 1), 0);
        Check.due("in the same hollow", one.lake(0, 1), 1);
        Check.due("of the same owner", one.lake(0, 2), 1);
        one.nights(1);
        refused(one, 3, "nothing is left", one.part(1, 1));
    }

    private static void partFirstGone() {
        Check.sentence("So many BARRELS of a LAKE become those of the first LAKE that is GONE: which one; NONE, refused (3), when that can't be, or none is GONE.");
        StringBuilder text = new StringBuilder("hollow h holds 99 at 0;owner a;");
        for (char c = 'a'; c <= 'h'; c++) {
            text.append("lake l").append(c).append(" has 9 in h of a;");
        }
        LakeMarket x = fresh(text.toString());
        refused(x, 3, "none is gone", x.part(0, 1));
        x.pour(0, 7);
        Check.due("the last one is gone", x.part(0, 1), 7);
        refused(x, 3, "none is gone", x.part(0, 1));
        x.pour(7, 3);
        x.pour(7, 0);
        Check.due("two are gone", x.part(7, 1), 0);
        Check.due("one is gone", x.part(7, 1), 3);
        refused(x, 3, "none is gone", x.part(7, 1));
        LakeMarket one = fresh("hollow h holds 99 at 0;owner a;lake l has 9 in h of a;");
        refused(one, 3, "no other one is told", one.part(0, 1));
    }

    private static void partNoneSuch() {
        Check.sentence("NONE, refused (3), when that can't be, or none is GONE.");
        LakeMarket x = fresh(TWO + "lake k has 5 in h of a;lake l has 6 in h of a;");
        x.pour(0, 1);
        int[] none = {-1, 1, 2, 8, Integer.MIN_VALUE, Integer.MAX_VALUE};
        for (int lake : none) {
            refused(x, 3, "part(" + lake + ", 1)", x.part(lake, 1));
            refused(x, 3, "part(" + lake + ", 0)", x.part(lake, 0));
            refused(x, 3, "part(" + lake + ", -1)", x.part(lake, -1));
        }
        Check.due("acts", x.has(9), 1);
    }

    private static void payBits() {
        Check.sentence("LAKES (bits, one at least) of an OWNER are PAID to another one: what they are worth; NONE, refused (3), when they are not all his");
        StringBuilder text = new StringBuilder("hollow h holds 99 at 0;owner a;owner b;");
        for (char c = 'a'; c <= 'h'; c++) {
            text.append("lake l").append(c).append(" has 2 in h of ").append(c == 'd' ? "b;" : "a;");
        }
        LakeMarket x = fresh(text.toString());
        int[] none = {0, 8, 9, 255, 256, 257, 511, -1, -256, Integer.MIN_VALUE, Integer.MIN_VALUE + 1, Integer.MAX_VALUE};
        for (int bits : none) {
            refused(x, 3, "pay(0, 1, " + bits + ")", x.pay(0, 1, bits));
        }
        Check.due("acts", x.has(9), 0);
        Check.due("the last one alone", x.pay(0, 1, 128), 2);
        Check.due("the first one alone", x.pay(0, 1, 1), 2);
        refused(x, 3, "not his now", x.pay(0, 1, 1));
        Check.due("all he has", x.pay(0, 1, 255 - 128 - 8 - 1), 10);
        Check.due("his lakes", x.owner(0, 0), 0);
        Check.due("the other one's lakes", x.owner(1, 0), 255);
        refused(x, 3, "none is left", x.pay(0, 1, 2));
        Check.due("all eight", x.pay(1, 0, 255), 16);
        x.pour(0, 1);
        refused(x, 3, "one that is gone", x.pay(0, 1, 2));
        refused(x, 3, "one that is gone and one that is not", x.pay(0, 1, 3));
    }

    private static void payLessOrMore() {
        Check.sentence("what the first one owes the second one becomes less by that (0 at least); what is more than that the second one owes the first one");
        for (int debt = 8; debt <= 12; debt++) {
            LakeMarket x = fresh(TWO + "lake l has 10 in h of a;owes a b " + debt + ";");
            Check.due("pay 10", x.pay(0, 1, 1), 10);
            Check.due("owed " + debt + ", owes", x.owes(0, 1), Math.max(0, debt - 10));
            Check.due("owed " + debt + ", is owed", x.owes(1, 0), Math.max(0, 10 - debt));
            LakeMarket both = fresh(TWO + "lake l has 10 in h of a;owes a b " + debt + ";owes b a 7;");
            both.pay(0, 1, 1);
            Check.due("both ways, owes", both.owes(0, 1), Math.max(0, debt - 10));
            Check.due("both ways, is owed", both.owes(1, 0), 7 + Math.max(0, 10 - debt));
        }
        LakeMarket nothing = fresh(TWO + "lake l has 10 in h of a;worth 0;owes a b 5;");
        Check.due("worth 0", nothing.pay(0, 1, 1), 0);
        Check.due("owes as much", nothing.owes(0, 1), 5);
        Check.due("is owed nothing", nothing.owes(1, 0), 0);
        Check.due("his it is", nothing.lake(0, 2), 1);
    }

    private static void payMostDebt() {
        Check.sentence("there are none such, or a debt would be above 9999.");
        String text = TWO + "lake k has 1 in h of a;lake l has 2 in h of a;worth if(has=1,9998,has-1);";
        LakeMarket x = fresh(text);
        Check.due("9998", x.pay(0, 1, 1), 9998);
        Check.due("is owed", x.owes(1, 0), 9998);
        Check.due("1 more", x.pay(0, 1, 2), 1);
        Check.due("9999", x.owes(1, 0), 9999);
        LakeMarket y = fresh(text.replace("has-1", "has"));
        Check.due("9998", y.pay(0, 1, 1), 9998);
        refused(y, 3, "2 more", y.pay(0, 1, 2));
        Check.due("it stays", y.owes(1, 0), 9998);
        Check.due("it stays his", y.lake(1, 2), 0);
        Check.due("it is not kept", y.has(8), 1);
        LakeMarket z = fresh(text.replace("has-1", "has"));
        refused(z, 3, "10000 at once", z.pay(0, 1, 3));
        LakeMarket w = fresh(text.replace("has-1", "has") + "owes a b 1;");
        Check.due("10000 less 1 that is owed", w.pay(0, 1, 3), 10000);
        Check.due("9999", w.owes(1, 0), 9999);
    }

    private static void payNoneSuch() {
        Check.sentence("NONE, refused (3), when they are not all his, there are none such");
        LakeMarket x = fresh(TWO + "lake l has 10 in h of a;");
        refused(x, 3, "to himself", x.pay(0, 0, 1));
        int[] none = {-1, 2, 6, Integer.MIN_VALUE, Integer.MAX_VALUE};
        for (int owner : none) {
            refused(x, 3, "pay(" + owner + ", 0, 1)", x.pay(owner, 0, 1));
            refused(x, 3, "pay(0, " + owner + ", 1)", x.pay(0, owner, 1));
            refused(x, 3, "pay(" + owner + ", " + owner + ", 1)", x.pay(owner, owner, 1));
        }
        Check.due("acts", x.has(9), 0);
        Check.due("kept", x.has(8), 0);
    }

    private static int strike(LakeMarket x, int... ring) {
        Check.rows(x, ring);
        int answer = x.strike();
        Check.no("the tape went", x.end(1));
        return answer;
    }

    private static void strikeOwners() {
        Check.sentence("The tape (it goes) is a RING of debts, 2 to 6 unlike OWNERS, a byte each, to be STRUCK OUT");
        StringBuilder text = new StringBuilder("owner a;owner b;owner c;owner d;owner e;owner f;");
        for (char p = 'a'; p <= 'f'; p++) {
            for (char q = 'a'; q <= 'f'; q++) {
                if (p != q) {
                    text.append("owes ").append(p).append(' ').append(q).append(" 9;");
                }
            }
        }
        LakeMarket x = fresh(text.toString());
        refused(x, 3, "none", strike(x));
        refused(x, 3, "1", strike(x, 0));
        Check.due("2", strike(x, 0, 1), 9);
        Check.due("3", strike(x, 2, 1, 3), 9);
        Check.due("5", strike(x, 1, 5, 0, 2, 4), 9);
        x = fresh(text.toString());
        Check.due("6", strike(x, 5, 4, 3, 2, 1, 0), 9);
        Check.due("all", x.has(7), 30 * 9 - 6 * 9);
        x = fresh(text.toString());
        refused(x, 3, "7", strike(x, 0, 1, 2, 3, 4, 5, 0));
        refused(x, 3, "7 with none such", strike(x, 0, 1, 2, 3, 4, 5, 6));
        refused(x, 3, "twice the first one", strike(x, 0, 0));
        refused(x, 3, "twice the first one", strike(x, 0, 1, 0));
        refused(x, 3, "twice the last one", strike(x, 0, 1, 2, 3, 4, 4));
        refused(x, 3, "a ring run through twice", strike(x, 0, 1, 0, 1));
        refused(x, 3, "one more than there are", strike(x, 5, 6));
        refused(x, 3, "255", strike(x, 255, 5));
        Check.due("all stays", x.has(7), 30 * 9);
        Check.due("acts", x.has(9), 0);
    }

    private static void strikeLeast() {
        Check.sentence("each owes the next one of it, the last one the first; all are less by the least of these.");
        String owners = "owner a;owner b;owner c;";
        int[][] rows = {{0, 5, 5}, {5, 0, 5}, {5, 5, 0}, {1, 5, 5}, {5, 1, 5}, {5, 5, 1}, {5, 5, 5}, {999, 999, 998}};
        for (int[] row : rows) {
            LakeMarket x = fresh(owners + "owes a b " + row[0] + ";owes b c " + row[1] + ";owes c a " + row[2] + ";");
            int least = Math.min(row[0], Math.min(row[1], row[2]));
            Check.due("strike", strike(x, 0, 1, 2), least == 0 ? -1 : least);
            Check.due("refused", x.status(3), least == 0 ? 1 : 0);
            Check.due("a owes b", x.owes(0, 1), row[0] - least);
            Check.due("b owes c", x.owes(1, 2), row[1] - least);
            Check.due("c owes a", x.owes(2, 0), row[2] - least);
            Check.due("acts", x.has(9), least == 0 ? 0 : 1);
        }
        LakeMarket most = fresh(TWO + "lake k has 1 in h of a;lake l has 2 in h of b;worth 9999;");
        most.pay(0, 1, 1);
        Check.yes("a debt of 9999 both ways", Check.onWith(most, 12, 9999));
        Check.due("9999", strike(most, 0, 1), 9999);
        Check.due("nothing is owed", most.has(7), 0);
    }

    private static void strikeNoneSuch() {
        Check.sentence("NONE, refused (3), when it is none such, or one of them owes the next one nothing.");
        LakeMarket x = fresh("owner a;owner b;owner c;owes a b 5;owes b c 5;owes c a 1;");
        refused(x, 3, "the other way round", strike(x, 0, 2, 1));
        refused(x, 3, "no way back", strike(x, 0, 1));
        refused(x, 3, "none such", strike(x, 0, 1, 3));
        Check.due("a ring", strike(x, 2, 0, 1), 1);
        refused(x, 3, "one owes nothing now", strike(x, 2, 0, 1));
        Check.due("acts", x.has(9), 1);
    }

    private static void undoNone() {
        Check.sentence("true; false, refused (4), when none can be.");
        LakeMarket x = fresh(TWO);
        Check.no("ahead of any act", x.undo());
        Check.due("refused", x.status(4), 1);
        x.nights(1);
        Check.yes("one", x.undo());
        Check.no("no second one", x.undo());
        Check.due("refused", x.status(4), 2);
    }

    private static void undoTwenty() {
        Check.sentence("The last 20 can be undone.");
        for (int acts = 19; acts <= 21; acts++) {
            LakeMarket x = fresh(TWO);
            for (int i = 1; i <= acts; i++) {
                x.nights(1);
                Check.due("acts that can be undone", x.has(9), Math.min(20, i));
            }
            for (int i = Math.min(20, acts) - 1; i >= 0; i--) {
                Check.yes("undo", x.undo());
                Check.due("acts that can be undone", x.has(9), i);
            }
            Check.no("no more", x.undo());
            Check.due("refused", x.status(4), 1);
            Check.due("night", x.has(3), Math.max(0, acts - 20));
        }
    }

    private static void undoGoesRound() {
        Check.sentence("The latest ACT is undone: all is as it was ahead of it (but the seed): true;");
        LakeMarket x = fresh(TWO);
        for (int i = 0; i < 65; i++) {
            x.nights(1);
        }
        for (int i = 0; i < 10; i++) {
            x.undo();
        }
        Check.due("ten undone", x.has(3), 55);
        for (int i = 0; i < 15; i++) {
            x.nights(2);
        }
        Check.due("acts", x.has(9), 20);
        for (int i = 0; i < 20; i++) {
            Check.yes("undo", x.undo());
            Check.due("night", x.has(3), i < 15 ? 85 - 2 * (i + 1) : 55 - (i - 14));
        }
        Check.no("no more", x.undo());
    }

    private static void undoOfEachAct() {
        Check.sentence("ACTS: NIGHTS, by the seed, too; LAKES moved, poured together, parted, paid; a RING struck out.");
        String text = TWO + "lake k has 5 in h of a;lake l has 6 in h of a;lake m has 1 in i of b;leaks 1;owes a b 9;owes b a 3;";
        for (int act = 0; act < 7; act++) {
            LakeMarket x = fresh(text);
            if (act == 4) {
                x.pour(0, 1);
            }
            int acts = x.has(9);
            int[] ahead = Check.picture(x);
            switch (act) {
                case 0: Check.due("nights", x.nights(1), 3); break;
                case 1: Check.due("chance", x.chance(1), 0); break;
                case 2: Check.yes("move", x.move(0, 1)); break;
                case 3: Check.due("pour", x.pour(0, 1), 11); break;
                case 4: Check.due("part", x.part(0, 5), 1); break;
                case 5: Check.due("pay", x.pay(0, 1, 3), 11); break;
                default: Check.due("strike", strike(x, 0, 1), 3); break;
            }
            Check.due("one act", x.has(9), acts + 1);
            Check.no("it changes something", Arrays.equals(ahead, Check.picture(x)));
            int seed = x.has(10);
            Check.yes("undo", x.undo());
            Check.yes("as ahead of it", Arrays.equals(ahead, Check.picture(x)));
            Check.due("nothing is kept", x.has(8), 0);
            Check.due("but the seed", x.has(10), seed);
            Check.due("acts", x.has(9), acts);
        }
    }

    private static void undoOfAllThereMayBe() {
        Check.sentence("The latest ACT is undone: all is as it was ahead of it (but the seed): true;");
        StringBuilder text = new StringBuilder();
        for (char c = 'a'; c <= 'h'; c++) {
            text.append("hollow h").append(c).append(" holds 99 at 0;");
        }
        for (char c = 'a'; c <= 'f'; c++) {
            text.append("owner p").append(c).append(";");
        }
        for (int i = 0; i < 8; i++) {
            text.append("lake l").append((char) ('a' + i)).append(" has ").append(10 + i).append(" in h").append((char) ('h' - i))
                    .append(" of p").append((char) ('a' + i % 6)).append(";");
        }
        LakeMarket x = fresh(text + "owes pf pe 50;owes pe pf 60;owes pa pf 70;leaks 1;");
        int[] ahead = Check.picture(x);
        Check.due("strike", strike(x, 5, 4), 50);
        Check.due("pay", x.pay(5, 0, 32), 15);
        Check.due("nights", x.nights(20), 8 * 10 + 28);
        Check.due("all are gone", x.has(4), 0);
        for (int i = 0; i < 3; i++) {
            Check.yes("undo", x.undo());
        }
        Check.yes("as ahead of them", Arrays.equals(ahead, Check.picture(x)));
    }

    private static void refusedIsNoAct() {
        Check.sentence("ACTS: NIGHTS, by the seed, too; LAKES moved, poured together, parted, paid; a RING struck out.");
        LakeMarket x = fresh(TWO + "lake l has 9 in h of a;");
        x.nights(1);
        x.nights(0);
        x.chance(101);
        x.move(0, 0);
        x.pour(0, 0);
        x.part(0, 1);
        x.pay(0, 1, 2);
        x.strike();
        x.undo();
        Check.due("what is refused is no act", x.has(9), 0);
        x.nights(1);
        // neither is what is no act
        x.seed(5);
        x.image();
        x.later(5, 0);
        Check.rows(x, 0, 1);
        x.moves();
        Check.rows(x, 0, 0, 1);
        x.stood();
        Check.due("nor is what is none of these", x.has(9), 1);
    }

    private static void seed() {
        Check.sentence("The seed: true; false, refused (5), when it is below 0.");
        LakeMarket x = fresh(TWO);
        int[] good = {0, 1, Integer.MAX_VALUE - 1, Integer.MAX_VALUE};
        for (int seed : good) {
            Check.yes("seed(" + seed + ")", x.seed(seed));
            Check.due("has(10)", x.has(10), seed);
        }
        int[] none = {-1, -2, Integer.MIN_VALUE};
        for (int seed : none) {
            refused(x, 5, "seed(" + seed + ")", x.seed(seed) ? 1 : -1);
            Check.due("it stays", x.has(10), Integer.MAX_VALUE);
        }
    }

    private static void keptNoneSuch() {
        Check.sentence("Of the k-th payment that is told as KEPT, from the oldest on: 0 NIGHT, 1 who paid, 2 whom, 3 what it was worth. NONE when there is none such, or for others.");
        LakeMarket x = fresh(TWO + "lake l has 9 in h of a;worth has+night;");
        Check.due("ahead of any", x.kept(0, 0), -1);
        x.pay(0, 1, 1);
        x.nights(100);
        x.pay(1, 0, 1);
        int[][] want = {{0, 0, 1, 9}, {100, 1, 0, 109}};
        for (int k = 0; k < 2; k++) {
            for (int what = 0; what < 4; what++) {
                Check.due("kept(" + k + ", " + what + ")", x.kept(k, what), want[k][what]);
            }
            Check.due("what -1", x.kept(k, -1), -1);
            Check.due("what 4", x.kept(k, 4), -1);
            Check.due("what most", x.kept(k, Integer.MAX_VALUE), -1);
            Check.due("what least", x.kept(k, Integer.MIN_VALUE), -1);
        }
        int[] none = {-1, 2, 39, 40, Integer.MIN_VALUE, Integer.MAX_VALUE};
        for (int k : none) {
            Check.due("kept(" + k + ", 0)", x.kept(k, 0), -1);
        }
    }

    private static final String PAYING = "hollow h holds 999 at 0;owner a;owner b;lake l has 999 in h of a;worth night;";

    /** Pays once a night, from night 0 on, so that the night tells which payment it is. */
    private static LakeMarket paid(int payments) {
        LakeMarket x = fresh(PAYING);
        for (int i = 0; i < payments; i++) {
            Check.due("pay", x.pay(i % 2, 1 - i % 2, 1), i);
            x.nights(1);
        }
        return x;
    }

    private static void keptForty() {
        Check.sentence("(the last 40 are told)");
        int[] counts = {0, 1, 39, 40, 41, 42};
        for (int count : counts) {
            LakeMarket x = paid(count);
            int told = Math.min(40, count);
            Check.due("has(8) behind " + count, x.has(8), told);
            for (int k = 0; k < told; k++) {
                Check.due("the night of " + k, x.kept(k, 0), count - told + k);
            }
            Check.due("one more", x.kept(told, 0), -1);
        }
    }

    private static void keptGoesRound() {
        Check.sentence("(the last 40 are told)");
        int[] counts = {59, 60, 61, 80, 100, 101, 120, 121, 141};
        for (int count : counts) {
            LakeMarket x = paid(count);
            for (int k = 0; k < 40; k++) {
                Check.due("the night of " + k, x.kept(k, 0), count - 40 + k);
                Check.due("who paid " + k, x.kept(k, 1), (count + k) % 2);
            }
            Check.due("one more", x.kept(40, 0), -1);
        }
    }

    private static void keptComesBack() {
        Check.sentence("all is as it was ahead of it (but the seed)");
        StringBuilder text = new StringBuilder("hollow h holds 99 at 0;owner a;owner b;");
        for (int lake = 0; lake < 7; lake++) {
            text.append("lake l").append((char) ('a' + lake)).append(" has ").append(lake + 1).append(" in h of a;");
        }
        int[] counts = {20, 40, 41, 45, 60, 61, 79};
        for (int count : counts) {
            LakeMarket x = fresh(text.toString());
            for (int i = 0; i < count; i++) {
                // the lakes take turns, so that what a payment was worth tells which one it was
                x.pay(i / 7 % 2, 1 - i / 7 % 2, 1 << i % 7);
            }
            for (int left = count - 1; left >= count - 20; left--) {
                Check.yes("undo", x.undo());
                int told = Math.min(40, left);
                Check.due("told", x.has(8), told);
                Check.due("the last one", x.kept(told - 1, 3), left == 0 ? -1 : (left - 1) % 7 + 1);
                Check.due("the first one", x.kept(0, 3), left == 0 ? -1 : (left - told) % 7 + 1);
                Check.due("who paid first", x.kept(0, 1), left == 0 ? -1 : (left - told) / 7 % 2);
                Check.due("one more", x.kept(told, 3), -1);
            }
            Check.no("no more", x.undo());
        }
    }
}
