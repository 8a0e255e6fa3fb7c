/** Boundary cases, sentence by sentence: promises 1 to 5, and how long an object is used. */
public final class BoundsTapeTest {
    private static final String TEXT = "hollow h holds 9 at 0;owner a;owner b;lake l has 5 in h of a;worth 1;leaks 1;";

    public static void main(String[] args) {
        usedFor512Calls();
        nothingAtFirst();
        theSeedAtFirst();
        highestFirst();
        noMoreThan1600();
        theWholeTapeIsRead();
        endHasNotSoMany();
        endBelow0();
        endOfAnEmptyTape();
        howManyStatements();
        theTapeGoes();
        aFaultLeavesAll();
        withoutAFaultAllIsAsAtFirst();
        nothingIsLeftOfOtherTexts();
        longTextsOneAfterAnother();
        faultWithoutAndAheadOfAny();
        faultForAnotherWhat();
        Check.finish();
    }

    private static void usedFor512Calls() {
        Check.sentence("An object is used for at most 512 calls after it has been made; what later calls answer is free.");
        LakeMarket x = new LakeMarket();
        x.feed(0x6f776e65, 0x7220613b, 0x20202020, 0x20202020, 0x20202020);
        Check.due("call 2", x.lowland(), 1);
        for (int call = 3; call <= 510; call++) {
            Check.due("call " + call, x.status(call % 6), 0);
        }
        Check.no("call 511", x.end(1));
        Check.due("call 512", x.status(0), 1);
        x.status(0);
        LakeMarket y = Check.market(TEXT);
        for (int call = 7; call < 512; call++) {
            y.pay(call % 2, 1 - call % 2, 1);
        }
        Check.due("the last call, behind hundreds of acts", y.has(9), 20);
    }

    private static void nothingAtFirst() {
        Check.sentence("No HOLLOWS, no LAKES; the seed is 1.");
        LakeMarket x = new LakeMarket();
        for (int what = 0; what <= 9; what++) {
            Check.due("has(" + what + ")", x.has(what), 0);
        }
        for (int i = -1; i <= 1; i++) {
            for (int kind = 0; kind < 3; kind++) {
                Check.due("letter", x.letter(kind, i, 0), -1);
            }
            Check.due("hollow", x.hollow(i, 0), -1);
            Check.due("lake", x.lake(i, 0), -1);
            Check.due("owner", x.owner(i, 0), -1);
            Check.due("owes", x.owes(i, 1), -1);
            Check.due("broke", x.broke(i), -1);
            Check.due("spend", x.spend(i, 0), -1);
            Check.due("price", x.price(i, 0, 0), -1);
            Check.due("pack", x.pack(i, 0), -1);
            Check.due("net", x.net(i), LakeMarket.NOTHING);
            Check.due("share", x.share(i, 2, -1), -1);
            Check.due("kept", x.kept(i, 0), -1);
            Check.due("octet", x.octet(i), -1);
            Check.no("move", x.move(i, 0));
            Check.due("pour", x.pour(i, 0), -1);
            Check.due("part", x.part(i, 1), -1);
            Check.due("pay", x.pay(i, 1 - i, 1), -1);
        }
        Check.due("later, all", x.later(100, -1), 0);
        Check.due("later, a lake", x.later(100, 0), -1);
        Check.due("settling", x.settling(), 0);
        Check.due("robbed", x.robbed(1), -1);
    }

    private static void theSeedAtFirst() {
        Check.sentence("the seed is 1.");
        LakeMarket x = new LakeMarket();
        Check.due("has(10)", x.has(10), 1);
        Check.due("chance", x.chance(1), 0);
        Check.due("drawn from 1", x.has(10), 1103515245 + 12345);
    }

    private static void highestFirst() {
        Check.sentence("Twenty bytes come behind those on the tape, of each number the highest first: how many there are;");
        LakeMarket x = new LakeMarket();
        // all are blanks but one, which the fault's place finds again
        for (int place = 0; place < 20; place++) {
            int[] five = new int[5];
            for (int k = 0; k < 5; k++) {
                five[k] = 0x20202020;
            }
            five[place / 4] ^= 0xff << (24 - 8 * (place % 4));
            Check.due("feed", x.feed(five[0], five[1], five[2], five[3], five[4]), 20);
            Check.due("lowland", x.lowland(), -1);
            Check.due("the byte that is no blank", x.fault(1), place);
        }
        Check.due("feed", x.feed(-1, Integer.MIN_VALUE, Integer.MAX_VALUE, 0, 1), 20);
        Check.due("feed behind it", x.feed(-1, Integer.MIN_VALUE, Integer.MAX_VALUE, 0, 1), 40);
        Check.yes("end", x.end(21));
        Check.due("feed behind what end() left", x.feed(0, 0, 0, 0, 0), 41);
    }

    private static void noMoreThan1600() {
        Check.sentence("NONE, refused (0), if there would be more than 1600.");
        LakeMarket x = new LakeMarket();
        for (int n = 20; n <= 1600; n += 20) {
            Check.due("feed", x.feed(0, 0, 0, 0, 0), n);
        }
        Check.due("20 more than 1600", x.feed(0, 0, 0, 0, 0), -1);
        Check.due("refused", x.status(0), 1);
        Check.yes("1581 are left", x.end(1581));
        Check.due("1 more than 1600", x.feed(0, 0, 0, 0, 0), -1);
        Check.due("refused", x.status(0), 2);
        Check.no("nothing came", x.end(1582));
        Check.yes("nothing went", x.end(1581));
        Check.yes("1580 are left", x.end(1580));
        Check.due("just 1600", x.feed(0, 0, 0, 0, 0), 1600);
        Check.yes("1579 are left", x.end(1579));
        Check.due("1 fewer than 1600", x.feed(0, 0, 0, 0, 0), 1599);
        Check.due("refused: the end() above and these two", x.status(0), 3);
    }

    private static void theWholeTapeIsRead() {
        Check.sentence("The tape (it goes) is THE LOWLAND: how many STATEMENTS;");
        Check.fault(" ".repeat(1599) + ";", 1, 1599);
        Check.fault(" ".repeat(1598) + ";", 1, 1598);
        Check.fault(" ".repeat(1592) + "owner a;", 0, -1);
        Check.fault(" ".repeat(1593) + "owner a", 1, 1600);
        Check.fault(" ".repeat(1592) + "owner a", 1, 1599);
        Check.fault(" ".repeat(1594) + "carts ", 1, 1600);
        Check.fault(" ".repeat(1590) + "carts 9999", 4, 1596);
        Check.fault(" ".repeat(1589) + "carts 99999", 1, 1599);
        Check.fault(" ".repeat(1587) + "owner abcdefg", 1, 1599);
        Check.fault(" ".repeat(1588) + "owner abcdef", 1, 1600);
    }

    private static void endHasNotSoMany() {
        Check.sentence("false, refused (0), if it has not so many, or n is below 0.");
        LakeMarket x = new LakeMarket();
        x.feed(0, 0, 0, 0, 0);
        Check.no("end(21) of 20", x.end(21));
        Check.due("refused", x.status(0), 1);
        Check.no("end(most) of 20", x.end(Integer.MAX_VALUE));
        Check.due("refused", x.status(0), 2);
        Check.yes("end(20) of 20: all stay", x.end(20));
        Check.yes("end(19) of 20", x.end(19));
        Check.no("end(20) of 19", x.end(20));
        Check.due("refused", x.status(0), 3);
    }

    private static void endBelow0() {
        Check.sentence("false, refused (0), if it has not so many, or n is below 0.");
        LakeMarket x = new LakeMarket();
        x.feed(0, 0, 0, 0, 0);
        Check.no("end(-1)", x.end(-1));
        Check.due("refused", x.status(0), 1);
        Check.no("end(least)", x.end(Integer.MIN_VALUE));
        Check.due("refused", x.status(0), 2);
        Check.yes("end(1)", x.end(1));
        Check.yes("end(0)", x.end(0));
        Check.due("refused", x.status(0), 2);
        Check.due("nothing is left", x.lowland(), 0);
    }

    private static void endOfAnEmptyTape() {
        Check.sentence("The tape has its first n bytes alone: true;");
        LakeMarket x = new LakeMarket();
        Check.yes("end(0)", x.end(0));
        Check.no("end(1)", x.end(1));
        Check.no("end(-1)", x.end(-1));
        Check.due("refused", x.status(0), 2);
        Check.tape(x, 0, Check.bytes("owner a;x"));
        Check.yes("the last byte goes", x.end(8));
        Check.due("its first 8 bytes alone", x.lowland(), 1);
    }

    private static void howManyStatements() {
        Check.sentence("how many STATEMENTS;");
        LakeMarket x = new LakeMarket();
        Check.due("of an empty tape", x.lowland(), 0);
        Check.due("of blanks", Check.tell(x, " \n"), 0);
        Check.due("of one", Check.tell(x, "owner a;"), 1);
        Check.due("of two", Check.tell(x, "owner a;owner b;"), 2);
        Check.due("of 79", Check.tell(x, "carts 5;".repeat(79)), 79);
        Check.due("of 80", Check.tell(x, "carts 5;".repeat(80)), 80);
        Check.due("of 81", Check.tell(x, "carts 5;".repeat(81)), -1);
    }

    private static void theTapeGoes() {
        Check.sentence("The tape (it goes) is THE LOWLAND");
        LakeMarket x = new LakeMarket();
        Check.tell(x, "owner a;");
        Check.no("it went", x.end(1));
        Check.due("an empty one is read now", x.lowland(), 0);
        Check.due("a fault", Check.tell(x, "owner a"), -1);
        Check.no("it went with a fault, too", x.end(1));
        Check.due("feed", x.feed(0, 0, 0, 0, 0), 20);
    }

    private static void aFaultLeavesAll() {
        Check.sentence("NONE, refused (1), with a FAULT (all stays).");
        LakeMarket x = Check.market(TEXT);
        x.seed(5);
        x.nights(1);
        x.pay(0, 1, 1);
        Check.rows(x, 0, 0, 3);
        Check.due("stood", x.stood(), 1);
        int[] want = {1, 2, 1, 1, 1, 4, 1, 1, 1, 2, 5};
        String[] faults = {"x", "owner a;owner a;", "owner a;owes a b 5;", "carts 0;", "leaks ((((((((1))))))));",
            "leaks 1;leaks 1;", "hollow z holds 1 at 0;owner z", "drought 5;carts 5;leaks 9;worth 9;may all;x"};
        for (int i = 0; i < faults.length; i++) {
            Check.due(faults[i], Check.tell(x, faults[i]), -1);
            Check.due("refused", x.status(1), i + 1);
            for (int what = 0; what < want.length; what++) {
                Check.due("has(" + what + ")", x.has(what), want[what]);
            }
            Check.due("its leaks stay", x.lake(0, 4), 1);
            Check.due("its rows stay", x.robbed(1), 256);
            Check.due("its name stays", x.letter(2, 0, 0), 12);
        }
        Check.yes("its acts stay", x.undo());
        Check.yes("its acts stay", x.undo());
        Check.due("night", x.has(3), 0);
    }

    private static void withoutAFaultAllIsAsAtFirst() {
        Check.sentence("Without one all is as at first, nothing is KEPT or told of a row, no ACT can be undone; the seed stays.");
        String[] texts = {"", TEXT};
        for (String text : texts) {
            LakeMarket x = Check.market(TEXT + "drought 100;carts 4;may not all;");
            x.seed(7);
            x.nights(1);
            x.pay(0, 1, 1);
            Check.rows(x, 0, 0, 3);
            x.stood();
            Check.due("a row is told", x.robbed(1), 256);
            Check.yes("a good text", Check.tell(x, text) >= 0);
            Check.due("night", x.has(3), 0);
            Check.due("debts", x.has(7), 0);
            Check.due("kept", x.has(8), 0);
            Check.due("kept(0, 0)", x.kept(0, 0), -1);
            Check.due("acts", x.has(9), 0);
            Check.no("undo", x.undo());
            Check.due("refused", x.status(4), 1);
            Check.due("told of a row", x.robbed(1), -1);
            Check.due("the seed", x.has(10), 7);
            Check.due("no drought", x.chance(9), 0);
        }
    }

    private static void nothingIsLeftOfOtherTexts() {
        Check.sentence("Without one all is as at first");
        String plain = "hollow h holds 9 at 0;hollow i holds 9 at 5;owner a;owner b;lake l has 5 in h of a;";
        String rules = "owes a b 7;owes b a 8;leaks 2;worth 3;may not all;drought 100;carts 4;";
        String[] others = {plain + rules, plain + rules + "x", rules, plain + "owner c;owner d;owes d c 9;lake m has 1 in i of d;"};
        for (String first : others) {
            for (String second : others) {
                LakeMarket x = new LakeMarket();
                Check.tell(x, first);
                Check.tell(x, second);
                Check.due("lowland", Check.tell(x, plain), 5);
                int[] want = {2, 2, 1, 0, 1, 5, 5, 0, 0, 0, 1};
                for (int what = 0; what < want.length; what++) {
                    Check.due("has(" + what + ")", x.has(what), want[what]);
                }
                Check.due("worth its barrels", x.lake(0, 3), 5);
                Check.due("leaks nothing", x.lake(0, 4), 0);
                Check.due("owes nothing", x.owes(0, 1), 0);
                Check.yes("may always, carts 999", x.move(0, 1));
                Check.due("no drought", x.chance(100), 0);
            }
        }
    }

    private static void longTextsOneAfterAnother() {
        Check.sentence("The tape (it goes) is THE LOWLAND: how many STATEMENTS;");
        String head = "hollow h holds 9 at 0;owner a;lake l has 5 in h of a;worth 1";
        int ones = (1600 - head.length() - 1) / 2;
        LakeMarket x = new LakeMarket();
        for (int times = 0; times < 5; times++) {
            Check.due("lowland", Check.tell(x, head + "+1".repeat(ones) + ";"), 4);
            Check.due("worth", x.lake(0, 3), ones + 1);
        }
    }

    private static void faultWithoutAndAheadOfAny() {
        Check.sentence("Of the latest lowland(): its FAULT (what 0; 0 without, and ahead of any), its place (1; NONE without).");
        LakeMarket x = new LakeMarket();
        Check.due("ahead of any", x.fault(0), 0);
        Check.due("ahead of any", x.fault(1), -1);
        Check.tell(x, "x");
        Check.due("with one", x.fault(0), 1);
        Check.due("at the first byte", x.fault(1), 0);
        Check.tell(x, "carts 0;");
        Check.due("the latest", x.fault(0), 4);
        Check.due("the latest", x.fault(1), 6);
        Check.tell(x, "");
        Check.due("without", x.fault(0), 0);
        Check.due("without", x.fault(1), -1);
    }

    private static void faultForAnotherWhat() {
        Check.sentence("NONE for another what.");
        LakeMarket x = new LakeMarket();
        Check.tell(x, "carts 0;");
        Check.due("fault(-1)", x.fault(-1), -1);
        Check.due("fault(0)", x.fault(0), 4);
        Check.due("fault(1)", x.fault(1), 6);
        Check.due("fault(2)", x.fault(2), -1);
        Check.due("fault(most)", x.fault(Integer.MAX_VALUE), -1);
        Check.due("fault(least)", x.fault(Integer.MIN_VALUE), -1);
    }
}
