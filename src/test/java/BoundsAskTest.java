/** Boundary cases, sentence by sentence: promises 6 to 14, what is asked of now and of nights ahead. */
public final class BoundsAskTest {
    /** All there may be of each sort: 8 hollows, 6 owners, 8 lakes; every lake of the first owner, all but one full. */
    private static final String FULL = full();

    private static final String ONE = "hollow h holds 999 at 0;owner a;owner b;lake l has 200 in h of a;";

    public static void main(String[] args) {
        hasForOthers();
        hasAtItsMost();
        hasNotGone();
        letters();
        lettersOfNoneSuch();
        hollows();
        hollowsBits();
        lakes();
        lakesThatAreGone();
        owners();
        broke();
        owes();
        laterByNights();
        laterByLakes();
        laterNotBeyond9999();
        brokeFirst();
        brokeNotBeyond9999();
        brokeNoneSuch();
        noDroughtsAhead();
        spend();
        spendTheSoonest();
        spendNotBeyond9999();
        spendNoneSuch();
        Check.finish();
    }

    private static String full() {
        StringBuilder text = new StringBuilder();
        for (int i = 0; i < 8; i++) {
            text.append("hollow h").append((char) ('a' + i)).append(" holds ").append(i == 7 ? 999 : 10).append(" at ").append(i).append(";");
        }
        for (int i = 0; i < 6; i++) {
            text.append("owner p").append((char) ('a' + i)).append(";");
        }
        for (int i = 0; i < 8; i++) {
            text.append("lake l").append((char) ('a' + i)).append(" has 10 in h").append((char) ('a' + i)).append(" of pa;");
        }
        return text.toString();
    }

    private static void hasForOthers() {
        Check.sentence("9 ACTS that can be undone, 10 the seed. NONE for others.");
        LakeMarket x = Check.market(FULL);
        int[] want = {8, 6, 8, 0, 8, 80, 80, 0, 0, 0, 1};
        for (int what = 0; what <= 10; what++) {
            Check.due("has(" + what + ")", x.has(what), want[what]);
        }
        int[] others = {-1, 11, 12, Integer.MIN_VALUE, Integer.MAX_VALUE};
        for (int what : others) {
            Check.due("has(" + what + ")", x.has(what), -1);
        }
    }

    private static void hasAtItsMost() {
        Check.sentence("5 BARRELS of all, 6 what all are worth, 7 all debts together");
        LakeMarket x = Check.market(FULL.replace("holds 10", "holds 999").replace("has 10", "has 999") + "worth 9999;");
        Check.due("barrels", x.has(5), 8 * 999);
        Check.due("worth", x.has(6), 8 * 9999);
        int[] row = Check.picture(x);
        for (int i = 0; i < 36; i++) {
            row[34 + 2 * i] = i % 7 == 0 ? 0 : 39;
            row[35 + 2 * i] = i % 7 == 0 ? 0 : 15;
        }
        Check.yes("on", Check.on(x, Check.checked(row)));
        Check.due("debts", x.has(7), 30 * 9999);
        Check.due("owes all together", x.owner(5, 2), 5 * 9999);
        Check.due("is owed", x.owner(5, 3), 5 * 9999);
        LakeMarket none = Check.market("hollow h holds 9 at 0;owner a;");
        Check.due("no barrels", none.has(5), 0);
        Check.due("no worth", none.has(6), 0);
        Check.due("no debts", none.has(7), 0);
    }

    private static void hasNotGone() {
        Check.sentence("2 LAKES as told, 3 NIGHT, 4 LAKES that are not GONE");
        LakeMarket x = Check.market("hollow h holds 9 at 0;owner a;lake k has 1 in h of a;lake l has 2 in h of a;leaks 1;");
        int[] left = {2, 1, 0, 0};
        for (int night = 0; night < 4; night++) {
            Check.due("night", x.has(3), night);
            Check.due("lakes as told", x.has(2), 2);
            Check.due("lakes that are not gone", x.has(4), left[night]);
            x.nights(1);
        }
    }

    private static void letters() {
        Check.sentence("Letter k (0 .. 5) of the NAME of a HOLLOW (kind 0), an OWNER (1), a LAKE (2): 1 .. 26; 0 behind it; NONE when there is none such.");
        LakeMarket x = Check.market("hollow a holds 9 at 0;owner zyxwva;lake bcdez has 9 in a of zyxwva;");
        int[][] want = {{1, 0, 0, 0, 0, 0}, {26, 25, 24, 23, 22, 1}, {2, 3, 4, 5, 26, 0}};
        for (int kind = 0; kind < 3; kind++) {
            for (int k = 0; k < 6; k++) {
                Check.due("letter(" + kind + ", 0, " + k + ")", x.letter(kind, 0, k), want[kind][k]);
            }
            Check.due("letter -1", x.letter(kind, 0, -1), -1);
            Check.due("letter 6", x.letter(kind, 0, 6), -1);
            Check.due("letter 7", x.letter(kind, 0, 7), -1);
            Check.due("letter most", x.letter(kind, 0, Integer.MAX_VALUE), -1);
            Check.due("letter least", x.letter(kind, 0, Integer.MIN_VALUE), -1);
        }
    }

    private static void lettersOfNoneSuch() {
        Check.sentence("0 behind it; NONE when there is none such.");
        LakeMarket x = Check.market(FULL);
        int[] counts = {8, 6, 8};
        for (int kind = 0; kind < 3; kind++) {
            Check.due("-1", x.letter(kind, -1, 0), -1);
            Check.yes("the first", x.letter(kind, 0, 1) == 1);
            Check.yes("the last", x.letter(kind, counts[kind] - 1, 1) == counts[kind]);
            Check.due("one more", x.letter(kind, counts[kind], 0), -1);
            Check.due("least", x.letter(kind, Integer.MIN_VALUE, 0), -1);
            Check.due("most", x.letter(kind, Integer.MAX_VALUE, 0), -1);
        }
        Check.due("kind -1", x.letter(-1, 0, 0), -1);
        Check.due("kind 3", x.letter(3, 0, 0), -1);
        LakeMarket few = Check.market("hollow h holds 9 at 0;owner a;lake l has 9 in h of a;");
        for (int kind = 0; kind < 3; kind++) {
            Check.due("one more than is told", few.letter(kind, 1, 0), -1);
        }
        // what the text before it told is not told now
        Check.tell(few, FULL);
        Check.tell(few, "owner a;");
        Check.due("of another text", few.letter(0, 0, 0), -1);
        Check.due("of another text", few.letter(1, 1, 0), -1);
    }

    private static void hollows() {
        Check.sentence("Of a HOLLOW: 0 what it holds, 1 its PLACE, 2 ROOM, 3 LAKES in it (bits). NONE when there is none such, or for others.");
        LakeMarket x = Check.market(FULL);
        int[] first = {10, 0, 0, 1};
        int[] last = {999, 7, 989, 128};
        for (int what = 0; what < 4; what++) {
            Check.due("of the first", x.hollow(0, what), first[what]);
            Check.due("of the last", x.hollow(7, what), last[what]);
            Check.due("of -1", x.hollow(-1, what), -1);
            Check.due("of one more", x.hollow(8, what), -1);
        }
        int[] others = {-1, 4, Integer.MIN_VALUE, Integer.MAX_VALUE};
        for (int what : others) {
            Check.due("what " + what, x.hollow(0, what), -1);
            Check.due("hollow " + what, x.hollow(what < 0 ? what : what + 4, 0), -1);
        }
        LakeMarket few = Check.market("hollow h holds 9 at 0;");
        Check.due("the only one", few.hollow(0, 0), 9);
        Check.due("one more than is told", few.hollow(1, 0), -1);
    }

    private static void hollowsBits() {
        Check.sentence("ROOM in a HOLLOW is what it holds less what all LAKES in it have.");
        LakeMarket x = Check.market(FULL);
        for (int lake = 0; lake < 7; lake++) {
            Check.yes("move", x.move(lake, 7));
        }
        Check.due("all lie in it", x.hollow(7, 3), 255);
        Check.due("room", x.hollow(7, 2), 999 - 80);
        Check.due("none lies in it", x.hollow(0, 3), 0);
        Check.due("room", x.hollow(0, 2), 10);
        LakeMarket y = Check.market("hollow h holds 9 at 0;owner a;lake k has 8 in h of a;lake l has 1 in h of a;leaks if(has=1,1,0);");
        Check.due("full", y.hollow(0, 2), 0);
        y.nights(1);
        Check.due("less one that is gone", y.hollow(0, 2), 1);
        Check.due("without one that is gone", y.hollow(0, 3), 1);
    }

    private static void lakes() {
        Check.sentence("4 what it would LEAK in the next NIGHT (without a drought). NONE when there is none such, or for others;");
        LakeMarket x = Check.market(FULL + "leaks has/5+drought;drought 100;");
        int[] want = {10, 7, 0, 10, 2};
        for (int what = 0; what < 5; what++) {
            Check.due("of the last", x.lake(7, what), want[what]);
            Check.due("of -1", x.lake(-1, what), -1);
            Check.due("of one more", x.lake(8, what), -1);
        }
        Check.due("of the first", x.lake(0, 1), 0);
        int[] others = {-1, 5, Integer.MIN_VALUE, Integer.MAX_VALUE};
        for (int what : others) {
            Check.due("what " + what, x.lake(0, what), -1);
            Check.due("lake " + what, x.lake(what < 0 ? what : what + 3, 0), -1);
        }
        Check.due("one more than is told", Check.market(ONE).lake(1, 0), -1);
        Check.due("one more than is told", Check.market(ONE).lake(1, 3), -1);
    }

    private static void lakesThatAreGone() {
        Check.sentence("0 of 3, 4 when it is GONE.");
        LakeMarket x = Check.market("hollow h holds 9 at 0;owner a;lake l has 2 in h of a;leaks 1;worth 50;");
        int[][] want = {{2, 0, 0, 50, 1, -1}, {1, 0, 0, 50, 1, -1}, {0, -1, -1, 0, 0, -1}};
        for (int night = 0; night < 3; night++) {
            for (int what = 0; what < 6; what++) {
                Check.due("lake(0, " + what + ") in night " + night, x.lake(0, what), want[night][what]);
            }
            x.nights(1);
        }
    }

    private static void owners() {
        Check.sentence("4 whether he is BROKE. NONE when there is none such, or for others.");
        LakeMarket x = Check.market(FULL + "owes pf pa 999;owes pa pf 80;");
        int[] first = {255, 80, 80, 999, 0};
        int[] last = {0, 0, 999, 80, 1};
        for (int what = 0; what < 5; what++) {
            Check.due("of the first", x.owner(0, what), first[what]);
            Check.due("of the last", x.owner(5, what), last[what]);
            Check.due("of -1", x.owner(-1, what), -1);
            Check.due("of one more", x.owner(6, what), -1);
        }
        int[] others = {-1, 5, Integer.MIN_VALUE, Integer.MAX_VALUE};
        for (int what : others) {
            Check.due("what " + what, x.owner(0, what), -1);
            Check.due("owner " + what, x.owner(what < 0 ? what : what + 1, 0), -1);
        }
        Check.due("one more than is told", Check.market(ONE).owner(2, 0), -1);
    }

    private static void broke() {
        Check.sentence("BROKE is an OWNER who owes more, all together, than his LAKES are worth together.");
        int[] debts = {199, 200, 201};
        for (int debt : debts) {
            LakeMarket x = Check.market(ONE + "owes a b " + debt + ";");
            Check.due("owes " + debt + ", has 200", x.owner(0, 4), debt > 200 ? 1 : 0);
            LakeMarket both = Check.market(ONE + "owner c;lake m has 50 in h of a;owes a b " + debt + ";owes a c 50;");
            Check.due("owes " + debt + " and 50, has 200 and 50", both.owner(0, 4), debt > 200 ? 1 : 0);
        }
        Check.due("owes nothing, has nothing", Check.market(ONE).owner(1, 4), 0);
        Check.due("owes 1, has nothing", Check.market(ONE + "owes b a 1;").owner(1, 4), 1);
    }

    private static void owes() {
        Check.sentence("What one OWNER owes another one; NONE when there are none such, or they are one.");
        LakeMarket x = Check.market(FULL + "owes pa pf 999;owes pf pa 1;");
        Check.due("the first to the last", x.owes(0, 5), 999);
        Check.due("the last to the first", x.owes(5, 0), 1);
        Check.due("nothing", x.owes(0, 1), 0);
        for (int owner = 0; owner < 6; owner++) {
            Check.due("they are one", x.owes(owner, owner), -1);
        }
        int[] none = {-1, 6, Integer.MIN_VALUE, Integer.MAX_VALUE};
        for (int owner : none) {
            Check.due("owes(" + owner + ", 0)", x.owes(owner, 0), -1);
            Check.due("owes(0, " + owner + ")", x.owes(0, owner), -1);
            Check.due("owes(" + owner + ", " + owner + ")", x.owes(owner, owner), -1);
        }
        LakeMarket few = Check.market(ONE);
        Check.due("one more than is told", few.owes(0, 2), -1);
        Check.due("one more than is told", few.owes(2, 0), -1);
    }

    private static void laterByNights() {
        Check.sentence("Behind n NIGHTS AHEAD (0 .. 100): BARRELS of a LAKE (0 .. 7), what all LAKES are worth together (lake NONE).");
        LakeMarket x = Check.market(ONE + "leaks 1;worth has*2;");
        int[] nights = {0, 1, 99, 100};
        for (int n : nights) {
            Check.due("later(" + n + ", 0)", x.later(n, 0), 200 - n);
            Check.due("later(" + n + ", -1)", x.later(n, -1), 2 * (200 - n));
        }
        int[] none = {-1, 101, 102, Integer.MIN_VALUE, Integer.MAX_VALUE};
        for (int n : none) {
            Check.due("later(" + n + ", 0)", x.later(n, 0), -1);
            Check.due("later(" + n + ", -1)", x.later(n, -1), -1);
        }
    }

    private static void laterByLakes() {
        Check.sentence("NONE when n can't be, or there is none such.");
        LakeMarket x = Check.market(FULL + "leaks 1;");
        Check.due("lake -2", x.later(1, -2), -1);
        Check.due("lake -1: all", x.later(1, -1), 72);
        Check.due("lake 0", x.later(1, 0), 9);
        Check.due("lake 7", x.later(1, 7), 9);
        Check.due("lake 8", x.later(1, 8), -1);
        Check.due("lake least", x.later(1, Integer.MIN_VALUE), -1);
        Check.due("lake most", x.later(1, Integer.MAX_VALUE), -1);
        Check.due("gone ahead", x.later(10, 7), 0);
        Check.due("just not gone ahead", x.later(9, 7), 1);
        LakeMarket few = Check.market(ONE);
        Check.due("one more than is told", few.later(1, 1), -1);
        few = Check.market(ONE + "leaks 200;");
        few.nights(1);
        Check.due("one that is gone has 0", few.later(1, 0), 0);
        Check.due("all are worth 0", few.later(1, -1), 0);
    }

    private static void laterNotBeyond9999() {
        Check.sentence("AHEAD are NIGHTS as they come from now on without DRAWS (100 at most, not beyond NIGHT 9999).");
        int[] nights = {9898, 9899, 9900, 9901, 9998, 9999};
        for (int night : nights) {
            LakeMarket x = Check.at(night, ONE + "leaks 1;");
            int most = Math.min(100, 9999 - night);
            Check.due("now", x.later(0, 0), 200);
            Check.due("just there", x.later(most, 0), 200 - most);
            Check.due("one more", x.later(most + 1, 0), -1);
            Check.due("one more, all", x.later(most + 1, -1), -1);
            if (most > 0) {
                Check.due("one fewer", x.later(most - 1, 0), 201 - most);
            }
        }
    }

    private static void brokeFirst() {
        Check.sentence("Behind how many NIGHTS AHEAD (0: now) an OWNER is BROKE first; NONE without");
        int[][] rows = {{201, 0}, {200, 1}, {199, 2}, {102, 99}, {101, 100}, {100, -1}, {99, -1}, {0, -1}};
        for (int[] row : rows) {
            LakeMarket x = Check.market(ONE + "leaks 1;owes a b " + row[0] + ";");
            Check.due("owes " + row[0], x.broke(0), row[1]);
        }
        // worth so little in one night alone
        LakeMarket x = Check.market(ONE + "worth if(night=100 or night=7,0,9);owes a b 9;");
        Check.due("in the 7th night first", x.broke(0), 7);
        LakeMarket y = Check.market(ONE + "worth if(night=101,0,9);owes a b 9;");
        Check.due("in the 101st night", y.broke(0), -1);
        y.nights(1);
        Check.due("in the 100th night from now on", y.broke(0), 100);
    }

    private static void brokeNotBeyond9999() {
        Check.sentence("(100 at most, not beyond NIGHT 9999)");
        String text = ONE + "leaks 1;owes a b 198;";
        // has 198 behind two nights, 197 behind three
        int[][] rows = {{9995, 3}, {9996, 3}, {9997, -1}, {9999, -1}};
        for (int[] row : rows) {
            Check.due("from night " + row[0] + " on", Check.at(row[0], text).broke(0), row[1]);
        }
        Check.due("now, in night 9999", Check.at(9999, ONE + "owes a b 201;").broke(0), 0);
        Check.due("not now, in night 9999", Check.at(9999, ONE + "leaks 1;owes a b 200;").broke(0), -1);
    }

    private static void brokeNoneSuch() {
        Check.sentence("an OWNER is BROKE first; NONE without, or when there is none such.");
        LakeMarket x = Check.market(FULL + "owes pf pa 1;");
        Check.due("the last", x.broke(5), 0);
        Check.due("the first", x.broke(0), -1);
        int[] none = {-1, 6, Integer.MIN_VALUE, Integer.MAX_VALUE};
        for (int owner : none) {
            Check.due("broke(" + owner + ")", x.broke(owner), -1);
        }
        Check.due("one more than is told", Check.market(ONE + "owes b a 1;").broke(2), -1);
    }

    private static void noDroughtsAhead() {
        Check.sentence("AHEAD are NIGHTS as they come from now on without DRAWS");
        LakeMarket x = Check.market(ONE + "leaks if(drought=0,0,has);drought 100;worth if(has>0,night+1,0);owes a b 1;");
        Check.due("later", x.later(100, 0), 200);
        Check.due("later, all", x.later(100, -1), 101);
        Check.due("broke", x.broke(0), -1);
        Check.due("spend", x.spend(0, 0), 100);
        Check.due("spend", x.spend(0, 1), 101);
        Check.due("no draw was made", x.has(10), 1);
    }

    private static void spend() {
        Check.sentence("SPENT best is a LAKE: behind how many NIGHTS AHEAD (what 0; 0: now), what it is worth then (1).");
        int[] nights = {0, 1, 99, 100, 101};
        for (int night : nights) {
            LakeMarket x = Check.market(ONE + "worth if(night=" + night + ",9,4);");
            boolean seen = night <= 100;
            Check.due("dear in night " + night, x.spend(0, 0), seen ? night : 0);
            Check.due("dear in night " + night, x.spend(0, 1), seen ? 9 : 4);
        }
        Check.due("what -1", Check.market(ONE).spend(0, -1), -1);
        Check.due("what 2", Check.market(ONE).spend(0, 2), -1);
    }

    private static void spendTheSoonest() {
        Check.sentence("SPENT best is a LAKE behind as many NIGHTS AHEAD as it is worth most; of like ones the soonest.");
        Check.due("always like", Check.market(ONE).spend(0, 0), 0);
        Check.due("like from 5 on", Check.market(ONE + "worth if(night<5,8,9);").spend(0, 0), 5);
        Check.due("like twice", Check.market(ONE + "worth if(night=3 or night=60,9,8);").spend(0, 0), 3);
        Check.due("one less at first", Check.market(ONE + "worth if(night=3,8,if(night=60,9,7));").spend(0, 0), 60);
        LakeMarket nothing = Check.market(ONE + "worth 0;");
        Check.due("never worth anything", nothing.spend(0, 0), 0);
        Check.due("never worth anything", nothing.spend(0, 1), 0);
        LakeMarket goes = Check.market(ONE + "leaks 100;worth 5+night;");
        // behind two nights it is gone, and worth nothing
        Check.due("ahead of its end", goes.spend(0, 0), 1);
        Check.due("ahead of its end", goes.spend(0, 1), 6);
    }

    private static void spendNotBeyond9999() {
        Check.sentence("(100 at most, not beyond NIGHT 9999)");
        int[] nights = {9898, 9899, 9900, 9998, 9999};
        for (int night : nights) {
            LakeMarket x = Check.at(night, ONE + "worth 9999-has;leaks 1;");
            int most = Math.min(100, 9999 - night);
            Check.due("from night " + night + " on", x.spend(0, 0), most);
            Check.due("from night " + night + " on", x.spend(0, 1), 9799 + most);
        }
    }

    private static void spendNoneSuch() {
        Check.sentence("NONE when there is none such, it is GONE, or for others.");
        LakeMarket x = Check.market(FULL);
        for (int what = 0; what < 2; what++) {
            Check.due("of the first", x.spend(0, what), what == 0 ? 0 : 10);
            Check.due("of the last", x.spend(7, what), what == 0 ? 0 : 10);
            Check.due("of -1", x.spend(-1, what), -1);
            Check.due("of one more", x.spend(8, what), -1);
            Check.due("of the least", x.spend(Integer.MIN_VALUE, what), -1);
            Check.due("of the most", x.spend(Integer.MAX_VALUE, what), -1);
            Check.due("one more than is told", Check.market(ONE).spend(1, what), -1);
        }
        LakeMarket gone = Check.market(ONE + "leaks 199;worth 5;");
        gone.nights(1);
        Check.due("has 1", gone.spend(0, 1), 5);
        gone.nights(1);
        Check.due("gone", gone.spend(0, 0), -1);
        Check.due("gone", gone.spend(0, 1), -1);
    }
}
