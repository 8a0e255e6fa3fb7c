/** Promises 4, 6 to 11: what a text tells, and what is told of it. */
public final class LowlandTest {
    static final String TEXT = "hollow low holds 50 at 0; hollow mid holds 40 at 10;\nhollow top holds 20 at 99;"
            + "owner ann; owner bob; owner cy;"
            + "lake red has 20 in low of ann; lake blue has 15 in low of ann; lake g has 12 in mid of bob;"
            + "owes ann bob 30; owes bob ann 8; owes cy ann 4; owes ann bob 31;"
            + "leaks has/10+beside; worth has*2-beside*3; drought 5; drought 50; carts 999; carts 18;";

    public static void main(String[] args) {
        counts();
        countsChange();
        names();
        hollows();
        lakes();
        owners();
        debts();
        withoutRules();
        aFaultLeavesAll();
        aNewLowlandStartsAnew();
        emptyTexts();
        limits();
        theLastOneCounts();
        Check.finish();
    }

    private static void counts() {
        LakeMarket x = new LakeMarket();
        Check.due("lowland", Check.tell(x, TEXT), 19);
        int[] want = {3, 3, 3, 0, 3, 47, 37 + 27 + 24, 43, 0, 0, 1};
        for (int what = 0; what < want.length; what++) {
            Check.due("has(" + what + ")", x.has(what), want[what]);
        }
        Check.due("has(-1)", x.has(-1), -1);
        Check.due("has(11)", x.has(11), -1);
        Check.due("has(most)", x.has(Integer.MAX_VALUE), -1);
    }

    private static void countsChange() {
        LakeMarket x = Check.market(TEXT);
        Check.due("pour", x.pour(0, 1), 35);
        Check.due("lakes as told", x.has(2), 3);
        Check.due("lakes that are not gone", x.has(4), 2);
        Check.due("barrels", x.has(5), 47);
        Check.due("worth", x.has(6), 70 + 24);
        Check.due("acts", x.has(9), 1);
        Check.due("pay", x.pay(0, 2, 1), 70);
        Check.due("debts", x.has(7), 43 + 70);
        Check.due("payments", x.has(8), 1);
        Check.due("nights", x.nights(3), 3 + 1 + 3 + 1 + 2 + 1);
        Check.due("night", x.has(3), 3);
        Check.yes("seed", x.seed(77));
        Check.due("seed", x.has(10), 77);
        LakeMarket one = Check.market("hollow h holds 1 at 0;owner a;lake l has 1 in h of a;");
        Check.due("a lake of one barrel is there", one.has(4), 1);
    }

    private static void names() {
        LakeMarket x = Check.market("hollow z holds 1 at 0;owner abcxyz;lake ba has 1 in z of abcxyz;");
        int[] want = {1, 2, 3, 24, 25, 26};
        for (int k = 0; k < 6; k++) {
            Check.due("letter(1, 0, " + k + ")", x.letter(1, 0, k), want[k]);
        }
        Check.due("hollow's", x.letter(0, 0, 0), 26);
        Check.due("behind it", x.letter(0, 0, 1), 0);
        Check.due("behind it", x.letter(0, 0, 5), 0);
        Check.due("lake's", x.letter(2, 0, 0), 2);
        Check.due("lake's", x.letter(2, 0, 1), 1);
        Check.due("lake's", x.letter(2, 0, 2), 0);
        Check.due("no letter", x.letter(1, 0, 6), -1);
        Check.due("no letter", x.letter(1, 0, -1), -1);
        Check.due("no kind", x.letter(3, 0, 0), -1);
        Check.due("no kind", x.letter(-1, 0, 0), -1);
        for (int kind = 0; kind < 3; kind++) {
            Check.due("none such", x.letter(kind, 1, 0), -1);
            Check.due("none such", x.letter(kind, -1, 0), -1);
        }
        Check.due("a lake that is gone", goneLake().letter(2, 1, 0), 'm' - 'a' + 1);
    }

    /** Lake l has 5, lake m is gone. */
    static LakeMarket goneLake() {
        LakeMarket x = Check.market("hollow h holds 9 at 3;hollow i holds 9 at 4;owner a;owner b;"
                + "lake l has 3 in h of a;lake m has 2 in h of a;leaks 1;worth 7;");
        Check.due("pour", x.pour(0, 1), 5);
        return x;
    }

    private static void hollows() {
        LakeMarket x = Check.market(TEXT);
        int[][] want = {{50, 0, 15, 3}, {40, 10, 28, 4}, {20, 99, 20, 0}};
        for (int h = 0; h < 3; h++) {
            for (int what = 0; what < 4; what++) {
                Check.due("hollow(" + h + ", " + what + ")", x.hollow(h, what), want[h][what]);
            }
            Check.due("no such what", x.hollow(h, 4), -1);
            Check.due("no such what", x.hollow(h, -1), -1);
        }
        Check.due("none such", x.hollow(3, 0), -1);
        Check.due("none such", x.hollow(-1, 0), -1);
        Check.yes("move", x.move(1, 1));
        Check.due("room", x.hollow(0, 2), 30);
        Check.due("bits", x.hollow(0, 3), 1);
        Check.due("bits", x.hollow(1, 3), 6);
        Check.due("without the lake that is gone", goneLake().hollow(0, 3), 1);
    }

    private static void lakes() {
        LakeMarket x = Check.market(TEXT);
        int[][] want = {{20, 0, 0, 37, 3}, {15, 0, 0, 27, 2}, {12, 1, 1, 24, 1}};
        for (int l = 0; l < 3; l++) {
            for (int what = 0; what < 5; what++) {
                Check.due("lake(" + l + ", " + what + ")", x.lake(l, what), want[l][what]);
            }
            Check.due("no such what", x.lake(l, 5), -1);
            Check.due("no such what", x.lake(l, -1), -1);
        }
        Check.due("none such", x.lake(3, 0), -1);
        Check.due("none such", x.lake(-1, 0), -1);
        LakeMarket gone = goneLake();
        int[] none = {0, -1, -1, 0, 0, -1};
        for (int what = 0; what < 6; what++) {
            Check.due("gone lake " + what, gone.lake(1, what), none[what]);
        }
        LakeMarket dry = Check.market("hollow h holds 9 at 0;owner a;lake l has 9 in h of a;leaks 1+5*drought;drought 100;");
        Check.due("without a drought", dry.lake(0, 4), 1);
        Check.due("no more than it has", leakOf("5000"), 8);
        Check.due("no less than 0", leakOf("0-5"), 0);
        Check.due("no more than 9999", worthOf("9999+1"), 9999);
        Check.due("9999", worthOf("9998+1"), 9999);
        Check.due("no less than 0", worthOf("0-5"), 0);
    }

    private static int leakOf(String sum) {
        return Check.market("hollow h holds 9 at 0;owner a;lake l has 8 in h of a;leaks " + sum + ";").lake(0, 4);
    }

    private static int worthOf(String sum) {
        return Check.market("hollow h holds 9 at 0;owner a;lake l has 8 in h of a;worth " + sum + ";").lake(0, 3);
    }

    private static void owners() {
        LakeMarket x = Check.market(TEXT);
        int[][] want = {{3, 64, 31, 12, 0}, {4, 24, 8, 31, 0}, {0, 0, 4, 0, 1}};
        for (int o = 0; o < 3; o++) {
            for (int what = 0; what < 5; what++) {
                Check.due("owner(" + o + ", " + what + ")", x.owner(o, what), want[o][what]);
            }
            Check.due("no such what", x.owner(o, 5), -1);
            Check.due("no such what", x.owner(o, -1), -1);
        }
        Check.due("none such", x.owner(3, 0), -1);
        Check.due("none such", x.owner(-1, 0), -1);
        LakeMarket even = Check.market("hollow h holds 9 at 0;owner a;owner b;lake l has 9 in h of a;owes a b 9;");
        Check.due("owes as much: not broke", even.owner(0, 4), 0);
        LakeMarket more = Check.market("hollow h holds 9 at 0;owner a;owner b;lake l has 9 in h of a;owes a b 10;");
        Check.due("owes one more: broke", more.owner(0, 4), 1);
    }

    private static void debts() {
        LakeMarket x = Check.market(TEXT);
        Check.due("owes", x.owes(0, 1), 31);
        Check.due("owes", x.owes(1, 0), 8);
        Check.due("owes", x.owes(2, 0), 4);
        Check.due("owes nothing", x.owes(0, 2), 0);
        Check.due("one", x.owes(1, 1), -1);
        Check.due("none such", x.owes(0, 3), -1);
        Check.due("none such", x.owes(3, 0), -1);
        Check.due("none such", x.owes(-1, 0), -1);
        Check.due("none such", x.owes(0, -1), -1);
    }

    private static void withoutRules() {
        LakeMarket x = Check.market("hollow h holds 999 at 0;hollow i holds 999 at 99;owner a;lake l has 999 in h of a;");
        Check.due("worth its barrels", x.lake(0, 3), 999);
        Check.due("leaks nothing", x.lake(0, 4), 0);
        Check.due("nights", x.nights(9), 0);
        Check.due("no drought", x.chance(100), 0);
        Check.yes("may always, carts take 999", x.move(0, 1));
    }

    private static void aFaultLeavesAll() {
        LakeMarket x = Check.market(TEXT);
        x.nights(2);
        x.pay(0, 1, 1);
        Check.rows(x, 0, 0, 5);
        x.stood();
        int robbed = x.robbed(3);
        int image = x.image();
        Check.due("lowland", Check.tell(x, "hollow other holds 1 at 1; owner"), -1);
        Check.due("refused", x.status(1), 1);
        Check.due("place", x.fault(1), 32);
        Check.due("hollows", x.has(0), 3);
        Check.due("night", x.has(3), 2);
        Check.due("payments", x.has(8), 1);
        Check.due("acts", x.has(9), 2);
        Check.due("its names", x.letter(0, 0, 0), 12);
        Check.due("its rules", x.lake(2, 4), 1);
        Check.due("its rows", x.robbed(3), robbed);
        Check.due("image", x.image(), image);
        Check.due("the tape went", x.feed(0, 0, 0, 0, 0), 20);
    }

    private static void aNewLowlandStartsAnew() {
        LakeMarket x = Check.market(TEXT);
        x.seed(4711);
        x.nights(2);
        x.pay(0, 1, 1);
        Check.rows(x, 0, 0, 5);
        Check.due("stood", x.stood(), 1);
        Check.tell(x, "nonsense");
        Check.due("fault", x.fault(0), 1);
        Check.due("lowland", Check.tell(x, "hollow h holds 5 at 7;owner a;lake l has 4 in h of a;"), 3);
        int[] want = {1, 1, 1, 0, 1, 4, 4, 0, 0, 0, 4711};
        for (int what = 0; what < want.length; what++) {
            Check.due("anew has(" + what + ")", x.has(what), want[what]);
        }
        Check.due("no fault", x.fault(0), 0);
        Check.due("no place", x.fault(1), -1);
        Check.due("nothing of a row", x.robbed(1), -1);
        Check.due("nothing kept", x.kept(0, 0), -1);
        Check.no("no act to undo", x.undo());
        Check.due("leaks nothing", x.lake(0, 4), 0);
        Check.due("refusals stay counted", x.status(1), 1);
        Check.due("the same text again", Check.tell(x, TEXT), 19);
        Check.due("and again", Check.tell(x, TEXT), 19);
        Check.due("debts", x.has(7), 43);
    }

    private static void emptyTexts() {
        LakeMarket x = Check.market(TEXT);
        Check.due("an empty text", x.lowland(), 0);
        Check.due("no drought is left of the other one", x.chance(50), 0);
        Check.due("no hollows", x.has(0), 0);
        Check.due("no debts", x.has(7), 0);
        Check.due("no fault", x.fault(0), 0);
        Check.due("blanks", Check.tell(x, " \n \n"), 0);
        Check.due("fault(2)", x.fault(2), -1);
        Check.due("fault(-1)", x.fault(-1), -1);
    }

    private static void limits() {
        StringBuilder text = new StringBuilder();
        for (int i = 0; i < 8; i++) {
            text.append("hollow h").append((char) ('a' + i)).append(" holds 999 at 99;");
        }
        for (int i = 0; i < 6; i++) {
            text.append("owner o").append((char) ('a' + i)).append(";");
        }
        for (int i = 0; i < 8; i++) {
            text.append("lake l").append((char) ('a' + i)).append(" has 999 in h").append((char) ('a' + i)).append(" of of;");
        }
        String ofIsNoName = text.toString();
        Check.fault(ofIsNoName, 1, ofIsNoName.indexOf("owner of") + 6);
        LakeMarket x = new LakeMarket();
        Check.due("all there may be", Check.tell(x, ofIsNoName.replace("owner of", "owner og").replace("of of", "of oe")), 22);
        Check.due("barrels", x.has(5), 8 * 999);
        Check.due("bits", x.owner(4, 0), 255);
        Check.due("last hollow", x.hollow(7, 3), 128);
        StringBuilder many = new StringBuilder();
        for (int i = 0; i < 80; i++) {
            many.append("carts ").append(i + 1).append(";");
        }
        Check.due("80 statements", Check.tell(x, many.toString()), 80);
        Check.fault(many + " carts 1;", 6, many.length() + 1);
    }

    private static void theLastOneCounts() {
        String text = "hollow h holds 99 at 0;hollow i holds 99 at 9;owner a;owner b;lake l has 9 in h of a;";
        LakeMarket x = Check.market(text + "owes a b 5;owes b a 6;owes a b 7;owes a b 0;carts 8;carts 9;drought 100;drought 0;");
        Check.due("owes", x.owes(0, 1), 0);
        Check.due("owes", x.owes(1, 0), 6);
        Check.yes("carts 9", x.move(0, 1));
        Check.due("drought 0", x.chance(50), 0);
        LakeMarket y = Check.market(text + "carts 9;carts 8;drought 0;drought 100;");
        Check.no("carts 8", y.move(0, 1));
        Check.due("drought 100", y.chance(50), 50);
    }
}
