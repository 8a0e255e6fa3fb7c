/** Promise 16: moves. */
public final class MovesTest {
    private static final String TEXT = "hollow g holds 50 at 0;hollow h holds 40 at 10;hollow i holds 20 at 30;owner a;owner b;"
            + "lake k has 20 in g of a;lake l has 15 in g of b;lake m has 12 in h of a;lake n has 5 in i of a;"
            + "may steps<25 and free>9;carts 18;";

    public static void main(String[] args) {
        few();
        inEachOthersWay();
        fourAndMore();
        longWays();
        refused();
        nothingChanges();
        Check.finish();
    }

    private static int moves(LakeMarket x, int... rows) {
        Check.rows(x, rows);
        return x.moves();
    }

    private static void few() {
        LakeMarket x = Check.market(TEXT);
        Check.due("lies there", moves(x, 0, 0), 0);
        Check.due("all lie there", moves(x, 0, 0, 1, 0, 2, 1, 3, 2), 0);
        Check.due("one", moves(x, 1, 1), 1);
        Check.due("by way of another one", moves(x, 1, 2), 2);
        Check.due("more than carts take", moves(x, 0, 1), -1);
        Check.due("two lakes", moves(x, 1, 1, 2, 0), 2);
        Check.due("one that lies there, one that does not", moves(x, 3, 2, 1, 1), 1);
        Check.due("none of these is refused", x.status(5), 0);
    }

    private static void inEachOthersWay() {
        // l and m change their hollows, which holds just by way of the third one
        LakeMarket x = Check.market("hollow g holds 10 at 0;hollow h holds 10 at 0;hollow i holds 10 at 0;owner a;"
                + "lake l has 8 in g of a;lake m has 7 in h of a;");
        Check.due("by way of the third one", moves(x, 0, 1, 1, 0), 3);
        Check.due("another one must go first", moves(x, 0, 1), 2);
        LakeMarket y = Check.market("hollow g holds 10 at 0;hollow h holds 10 at 0;owner a;"
                + "lake l has 8 in g of a;lake m has 7 in h of a;");
        Check.due("no way", moves(y, 0, 1, 1, 0), -1);
        Check.due("no way", moves(y, 0, 1), -1);
        // a lake may go only where one lies: another one must go there first
        LakeMarket z = Check.market("hollow g holds 99 at 0;hollow h holds 99 at 50;owner a;lake l has 8 in g of a;"
                + "lake m has 7 in g of a;may has=7 or beside>0;");
        Check.due("company first", moves(z, 0, 1), 2);
        Check.due("alone", moves(z, 1, 1), 1);
        Check.due("both", moves(z, 0, 1, 1, 1), 2);
        Check.due("company that goes back", moves(z, 0, 1, 1, 0), 3);
    }

    private static void fourAndMore() {
        StringBuilder text = new StringBuilder("owner a;");
        for (char c = 'g'; c < 'n'; c++) {
            text.append("hollow ").append(c).append(" holds 99 at ").append(c == 'g' ? 0 : 10 * (c - 'g') - 9).append(";");
        }
        for (char c = 'p'; c < 'u'; c++) {
            text.append("lake ").append(c).append(" has 5 in g of a;");
        }
        LakeMarket x = Check.market(text + "may steps<11;");
        Check.due("1", moves(x, 0, 1), 1);
        Check.due("2", moves(x, 0, 2), 2);
        Check.due("3", moves(x, 0, 3), 3);
        Check.due("4", moves(x, 0, 4), 4);
        Check.due("4 are not enough", moves(x, 0, 5), -1);
        Check.due("4 lakes", moves(x, 0, 1, 1, 1, 2, 1, 3, 1), 4);
        Check.due("4 lakes and one that stays", moves(x, 4, 0, 0, 1, 1, 1, 2, 1, 3, 1), 4);
        Check.due("5 lakes", moves(x, 0, 1, 1, 1, 2, 1, 3, 1, 4, 1), -1);
        Check.due("2 and 2", moves(x, 0, 2, 1, 2), 4);
        Check.due("3 and 2", moves(x, 0, 3, 1, 2), -1);
        Check.due("none of these is refused", x.status(5), 0);
    }

    /** Ways of four moves that are lost if two ways to lie are taken for one. */
    private static void longWays() {
        LakeMarket x = Check.market("hollow g holds 12 at 18;hollow h holds 16 at 19;hollow i holds 8 at 3;hollow j holds 7 at 17;owner a;"
                + "lake k has 8 in h of a;lake l has 8 in g of a;lake m has 3 in h of a;lake n has 4 in j of a;lake o has 8 in i of a;"
                + "lake p has 4 in h of a;");
        Check.due("two told, four moves", moves(x, 0, 1, 1, 2), 4);
        LakeMarket y = Check.market("hollow g holds 17 at 9;hollow h holds 13 at 7;hollow i holds 11 at 7;owner a;"
                + "lake k has 1 in g of a;lake l has 2 in h of a;lake m has 5 in g of a;lake n has 7 in h of a;lake o has 7 in g of a;"
                + "lake p has 8 in i of a;");
        Check.due("one told, four moves", moves(y, 4, 1), 4);
        LakeMarket z = Check.market("hollow g holds 99 at 0;hollow h holds 99 at 9;owner a;lake l has 5 in g of a;carts 5;");
        Check.due("just as much as carts take", moves(z, 0, 1), 1);
    }

    private static void refused() {
        LakeMarket x = Check.market(TEXT);
        int[][] none = {{}, {0}, {0, 0, 1}, {4, 0}, {255, 0}, {0, 3}, {0, 255}, {0, 0, 0, 1}, {0, 0, 1, 1, 0, 0},
            {0, 0, 1, 0, 2, 0, 3, 0, 0, 0, 1, 0, 2, 0, 3, 0, 0, 0}};
        for (int i = 0; i < none.length; i++) {
            Check.due("none such", moves(x, none[i]), -1);
            Check.due("refused", x.status(5), i + 1);
        }
        Check.due("the tape went", x.feed(0, 0, 0, 0, 0), 20);
        LakeMarket gone = LowlandTest.goneLake();
        Check.due("a lake that is gone", moves(gone, 1, 0), -1);
        Check.due("refused", gone.status(5), 1);
        Check.due("not the others", moves(gone, 0, 1), 1);
        LakeMarket y = Check.market("hollow h holds 99 at 0;owner a;lake k has 1 in h of a;lake l has 1 in h of a;lake m has 1 in h of a;"
                + "lake n has 1 in h of a;lake o has 1 in h of a;lake p has 1 in h of a;lake q has 1 in h of a;lake r has 1 in h of a;");
        Check.due("eight rows", moves(y, 0, 0, 1, 0, 2, 0, 3, 0, 4, 0, 5, 0, 6, 0, 7, 0), 0);
    }

    private static void nothingChanges() {
        LakeMarket x = Check.market(TEXT);
        int size = x.image();
        int[] before = new int[size];
        for (int k = 0; k < size; k++) {
            before[k] = x.octet(k);
        }
        moves(x, 1, 2);
        moves(x, 0, 1);
        x.image();
        for (int k = 0; k < size; k++) {
            Check.due("octet", x.octet(k), before[k]);
        }
        Check.due("no act", x.has(9), 0);
    }
}
