/** Promises 23 to 29 and 31: nights, chance, move, pour, part, pay, strike, seed. */
public final class ActsTest {
    private static final String TEXT = "hollow h holds 60 at 0;hollow i holds 30 at 40;owner a;owner b;owner c;"
            + "lake k has 20 in h of a;lake l has 10 in h of a;lake m has 5 in h of b;lake n has 8 in i of a;"
            + "leaks if(drought=1,5,1);worth has*3;drought 40;owes a b 50;owes b c 7;owes c a 9;";

    public static void main(String[] args) {
        nights();
        chance();
        draws();
        lastNight();
        move();
        pour();
        part();
        pay();
        payTooMuch();
        strike();
        seed();
        Check.finish();
    }

    private static void nights() {
        LakeMarket x = Check.market(TEXT);
        Check.due("one night", x.nights(1), 4);
        Check.due("night", x.has(3), 1);
        Check.due("three nights", x.nights(3), 12);
        Check.due("four more: m is gone in the first one", x.nights(4), 4 + 3 + 3 + 3);
        Check.due("gone", x.lake(2, 2), -1);
        Check.due("gone", x.lake(3, 1), -1);
        Check.due("seed", x.has(10), 1);
        int[] none = {0, -1, 101, Integer.MAX_VALUE, Integer.MIN_VALUE};
        for (int i = 0; i < none.length; i++) {
            Check.due("nights(" + none[i] + ")", x.nights(none[i]), -1);
            Check.due("refused", x.status(2), i + 1);
        }
        Check.due("night", x.has(3), 8);
        Check.due("a hundred", x.nights(100), 12 + 2);
        Check.due("acts", x.has(9), 4);
    }

    private static void chance() {
        LakeMarket x = Check.market(TEXT);
        Oracle o = new Oracle();
        int droughts = 0;
        int[] barrels = {20, 10, 5, 8};
        for (int night = 0; night < 6; night++) {
            boolean drought = o.draw(100) < 40;
            droughts += drought ? 1 : 0;
            for (int lake = 0; lake < 4; lake++) {
                barrels[lake] = Math.max(0, barrels[lake] - (drought ? 5 : 1));
            }
        }
        Check.due("six nights by the seed", x.chance(6), droughts);
        for (int lake = 0; lake < 4; lake++) {
            Check.due("barrels", x.lake(lake, 0), barrels[lake]);
        }
        Check.due("seed", x.has(10), o.x);
        Check.due("one act", x.has(9), 1);
        int[] none = {0, -1, 101, Integer.MAX_VALUE, Integer.MIN_VALUE};
        for (int i = 0; i < none.length; i++) {
            Check.due("chance(" + none[i] + ")", x.chance(none[i]), -1);
            Check.due("refused", x.status(2), i + 1);
        }
        Check.due("no draw", x.has(10), o.x);
        Check.due("night", x.has(3), 6);
    }

    private static void draws() {
        LakeMarket x = new LakeMarket();
        Check.due("no drought told", x.chance(1), 0);
        Check.due("a draw all the same", x.has(10), 1103527590);
        x.seed(0);
        x.chance(1);
        Check.due("seed 0", x.has(10), 12345);
        x.seed(Integer.MAX_VALUE);
        x.chance(1);
        Check.due("seed 2 to the 31 less 1", x.has(10), (1103515245L * Integer.MAX_VALUE + 12345) % (1L << 31));
        // 12345 / 64 is 192: the draw of 100 is 92
        LakeMarket at = Check.market("drought 92;");
        at.seed(0);
        Check.due("92 is not below 92", at.chance(1), 0);
        LakeMarket below = Check.market("drought 93;");
        below.seed(0);
        Check.due("92 is below 93", below.chance(1), 1);
    }

    private static void lastNight() {
        LakeMarket x = new LakeMarket();
        for (int i = 0; i < 99; i++) {
            x.nights(100);
        }
        Check.due("beyond", x.nights(100), -1);
        Check.due("beyond", x.chance(100), -1);
        Check.due("refused", x.status(2), 2);
        Check.due("just there", x.chance(99), 0);
        Check.due("night", x.has(3), 9999);
        Check.due("beyond", x.nights(1), -1);
        Check.due("beyond", x.chance(1), -1);
        Check.due("refused", x.status(2), 4);
    }

    private static void move() {
        LakeMarket x = Check.market(TEXT + "carts 10;may steps=40 and beside=1;");
        int refused = 0;
        int[][] none = {{0, 1}, {1, 0}, {1, 2}, {1, -1}, {4, 1}, {-1, 1}};
        for (int[] row : none) {
            Check.no("move(" + row[0] + ", " + row[1] + ")", x.move(row[0], row[1]));
            refused++;
            Check.due("refused", x.status(3), refused);
        }
        Check.due("no act", x.has(9), 0);
        Check.yes("as many as carts", x.move(1, 1));
        Check.due("lies there", x.lake(1, 1), 1);
        Check.due("is whose it was", x.lake(1, 2), 0);
        Check.due("acts", x.has(9), 1);
        Check.no("two beside it", x.move(2, 1));
        LakeMarket full = Check.market(TEXT);
        Check.yes("room", full.move(0, 1));
        Check.no("no room: 2 left", full.move(1, 1));
        full.nights(1);
        Check.due("room", full.hollow(1, 2), 4);
        Check.yes("just room", full.move(2, 1));
        Check.due("room", full.hollow(1, 2), 0);
        Check.no("a lake that is gone", LowlandTest.goneLake().move(1, 1));
    }

    private static void pour() {
        LakeMarket x = Check.market(TEXT);
        int[][] none = {{0, 0}, {0, 2}, {0, 3}, {0, 4}, {4, 0}, {-1, 0}, {0, -1}};
        for (int i = 0; i < none.length; i++) {
            Check.due("pour(" + none[i][0] + ", " + none[i][1] + ")", x.pour(none[i][0], none[i][1]), -1);
            Check.due("refused", x.status(3), i + 1);
        }
        Check.due("pour", x.pour(1, 0), 30);
        Check.due("the first one has all", x.lake(1, 0), 30);
        Check.due("the second one is gone", x.lake(0, 0), 0);
        Check.due("lies nowhere", x.lake(0, 1), -1);
        Check.due("nobody's", x.lake(0, 2), -1);
        Check.due("room as ahead of it", x.hollow(0, 2), 25);
        Check.due("a lake that is gone", x.pour(1, 0), -1);
        Check.due("a lake that is gone", x.pour(0, 1), -1);
        LakeMarket y = Check.market("hollow h holds 999 at 0;owner a;lake l has 900 in h of a;lake m has 99 in h of a;");
        Check.due("999", y.pour(0, 1), 999);
        Check.due("acts", y.has(9), 1);
    }

    private static void part() {
        LakeMarket x = Check.market(TEXT);
        Check.due("none is gone", x.part(0, 5), -1);
        Check.due("refused", x.status(3), 1);
        x.pour(0, 1);
        int[][] none = {{0, 0}, {0, -1}, {0, 30}, {0, 31}, {1, 1}, {4, 1}, {-1, 1}};
        for (int i = 0; i < none.length; i++) {
            Check.due("part(" + none[i][0] + ", " + none[i][1] + ")", x.part(none[i][0], none[i][1]), -1);
            Check.due("refused", x.status(3), i + 2);
        }
        Check.due("all but one", x.part(0, 29), 1);
        Check.due("what is left", x.lake(0, 0), 1);
        Check.due("what was parted", x.lake(1, 0), 29);
        Check.due("in the same hollow", x.lake(1, 1), 0);
        Check.due("of the same owner", x.lake(1, 2), 0);
        Check.due("none is gone", x.part(3, 1), -1);
        x.nights(1);
        Check.due("gone", x.lake(0, 0), 0);
        Check.due("the first one that is gone", x.part(3, 1), 0);
        Check.due("in the same hollow", x.lake(0, 1), 1);
        Check.due("acts", x.has(9), 4);
        LakeMarket y = Check.market(TEXT);
        y.nights(5);
        y.nights(3);
        Check.due("two are gone: the first one of them", y.part(0, 1), 2);
        Check.due("and the next one", y.part(0, 1), 3);
    }

    private static void pay() {
        LakeMarket x = Check.market(TEXT);
        int[][] none = {{0, 1, 0}, {0, 1, 4}, {0, 1, 5}, {0, 1, 16}, {0, 1, 257}, {0, 1, -1}, {0, 1, Integer.MIN_VALUE},
            {0, 0, 1}, {0, 3, 1}, {3, 0, 1}, {-1, 0, 1}, {0, -1, 1}, {2, 0, 1}};
        for (int i = 0; i < none.length; i++) {
            Check.due("pay(" + none[i][0] + ", " + none[i][1] + ", " + none[i][2] + ")",
                    x.pay(none[i][0], none[i][1], none[i][2]), -1);
            Check.due("refused", x.status(3), i + 1);
        }
        Check.due("less than is owed", x.pay(0, 1, 2), 30);
        Check.due("owes less", x.owes(0, 1), 20);
        Check.due("is owed nothing", x.owes(1, 0), 0);
        Check.due("whose", x.lake(1, 2), 1);
        Check.due("lies where it lay", x.lake(1, 1), 0);
        Check.due("more than is owed, two lakes", x.pay(0, 1, 9), 84);
        Check.due("owes nothing", x.owes(0, 1), 0);
        Check.due("is owed what is more", x.owes(1, 0), 64);
        Check.due("bits", x.owner(1, 0), 15);
        Check.due("back", x.pay(1, 0, 4), 15);
        Check.due("owes less", x.owes(1, 0), 49);
        Check.due("others stay", x.owes(2, 0), 9);
        Check.due("acts", x.has(9), 3);
        LakeMarket y = Check.market("hollow h holds 9 at 0;owner a;owner b;lake l has 9 in h of a;owes a b 5;worth 5;");
        Check.due("just what is owed", y.pay(0, 1, 1), 5);
        Check.due("owes nothing", y.owes(0, 1), 0);
        Check.due("is owed nothing", y.owes(1, 0), 0);
    }

    private static void payTooMuch() {
        String text = "hollow h holds 9 at 0;owner a;owner b;lake l has 1 in h of a;lake m has 2 in h of a;";
        LakeMarket x = Check.market(text + "worth if(has=1,9999,1);");
        Check.due("9999 in a debt", x.pay(0, 1, 1), 9999);
        Check.due("is owed", x.owes(1, 0), 9999);
        Check.due("above it", x.pay(0, 1, 2), -1);
        Check.due("refused", x.status(3), 1);
        Check.due("all stays", x.lake(1, 2), 0);
        Check.due("all stays", x.owes(1, 0), 9999);
        Check.due("nothing kept of it", x.has(8), 1);
        LakeMarket y = Check.market(text + "worth 9999;owes a b 999;");
        Check.due("two at once", y.pay(0, 1, 3), -1);
        Check.due("what is owed is less first", y.pay(0, 1, 1), 9999);
        Check.due("is owed", y.owes(1, 0), 9000);
        LakeMarket z = Check.market(text + "worth 0;");
        Check.due("worth nothing", z.pay(0, 1, 3), 0);
        Check.due("kept all the same", z.has(8), 1);
        Check.due("whose", z.owner(1, 0), 3);
    }

    private static int strike(LakeMarket x, int... ring) {
        Check.rows(x, ring);
        return x.strike();
    }

    private static void strike() {
        LakeMarket x = Check.market(TEXT);
        int[][] none = {{}, {0}, {0, 1}, {0, 2, 1}, {0, 1, 2, 0}, {0, 1, 3}, {0, 1, 255}, {0, 0}, {0, 1, 2, 0, 1, 2},
            {0, 1, 2, 0, 1, 2, 0}};
        for (int i = 0; i < none.length; i++) {
            Check.due("strike", strike(x, none[i]), -1);
            Check.due("refused", x.status(3), i + 1);
        }
        Check.due("the tape went", x.feed(0, 0, 0, 0, 0), 20);
        Check.yes("end", x.end(0));
        Check.due("no act", x.has(9), 0);
        Check.due("strike", strike(x, 1, 2, 0), 7);
        Check.due("less", x.owes(0, 1), 43);
        Check.due("less", x.owes(1, 2), 0);
        Check.due("less", x.owes(2, 0), 2);
        Check.due("acts", x.has(9), 1);
        Check.due("one owes nothing now", strike(x, 1, 2, 0), -1);
        LakeMarket two = Check.market("owner a;owner b;owes a b 5;owes b a 3;");
        Check.due("two", strike(two, 1, 0), 3);
        Check.due("less", two.owes(0, 1), 2);
        LakeMarket six = Check.market("owner a;owner b;owner c;owner d;owner e;owner f;owes a c 5;owes c b 4;owes b f 6;"
                + "owes f e 9;owes e d 8;owes d a 7;");
        Check.due("six", strike(six, 0, 2, 1, 5, 4, 3), 4);
        Check.due("all together", six.has(7), 39 - 24);
    }

    private static void seed() {
        LakeMarket x = new LakeMarket();
        Check.yes("seed(0)", x.seed(0));
        Check.due("seed", x.has(10), 0);
        Check.yes("seed(most)", x.seed(Integer.MAX_VALUE));
        Check.due("seed", x.has(10), Integer.MAX_VALUE);
        Check.no("seed(-1)", x.seed(-1));
        Check.no("seed(least)", x.seed(Integer.MIN_VALUE));
        Check.due("refused", x.status(5), 2);
        Check.due("seed", x.has(10), Integer.MAX_VALUE);
        Check.due("no act", x.has(9), 0);
    }
}
