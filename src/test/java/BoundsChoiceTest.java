/** Boundary cases, sentence by sentence: promises 15 to 22, what is best, fewest, fairest, and who was robbed. */
public final class BoundsChoiceTest {
    private static final String HEAD = "hollow h holds 999 at 0;owner a;owner b;";

    public static void main(String[] args) {
        price();
        priceAtLeastSoMuch();
        priceOfLikeOnes();
        priceNoneSuch();
        movesRows();
        movesUnlikeLakes();
        movesThatThereAre();
        movesFourAtMost();
        movesOutOfTheWay();
        movesByWhatLiesThere();
        movesAskedAgain();
        movesNoneIsNotRefused();
        packWhole();
        packOthersStay();
        packNoneSuch();
        net();
        settling();
        settlingAgain();
        shareHeirs();
        shareLakes();
        shareOfLikeOnes();
        stoodRows();
        stoodBarrels();
        stoodLakes();
        stoodStays();
        robbedBarrels();
        robbedAheadOfAny();
        robbedAllThatAreLeft();
        robbedWithoutADrought();
        robbedSomeLeft();
        robbedJustOne();
        Check.finish();
    }

    private static String lakes(String owner, int... barrels) {
        StringBuilder text = new StringBuilder();
        for (int i = 0; i < barrels.length; i++) {
            text.append("lake l").append((char) ('a' + i)).append(" has ").append(barrels[i]).append(" in h of ").append(owner).append(";");
        }
        return text.toString();
    }

    private static void price() {
        Check.sentence("A PRICE (0 .. 9999) is paid by an OWNER: LAKES as bits (what 0), what they are worth more than it (1).");
        LakeMarket x = Check.market(HEAD + lakes("a", 1, 2) + "worth if(has=1,9998,9999);");
        int[][] rows = {{-1, -1, -1}, {0, 0, 0}, {1, 1, 9997}, {9997, 1, 1}, {9998, 1, 0}, {9999, 2, 0}, {10000, -1, -1},
            {Integer.MIN_VALUE, -1, -1}, {Integer.MAX_VALUE, -1, -1}};
        for (int[] row : rows) {
            Check.due("price " + row[0], x.price(0, row[0], 0), row[1]);
            Check.due("price " + row[0] + " is less by", x.price(0, row[0], 1), row[2]);
        }
        Check.due("what -1", x.price(0, 1, -1), -1);
        Check.due("what 2", x.price(0, 1, 2), -1);
    }

    private static void priceAtLeastSoMuch() {
        Check.sentence("A PRICE is paid by LAKES of one OWNER that are worth at least so much: by those that are worth least more;");
        LakeMarket x = Check.market(HEAD + lakes("a", 10, 20, 40) + "lake z has 5 in h of b;");
        int[][] rows = {{9, 1, 1}, {10, 1, 0}, {11, 2, 9}, {29, 3, 1}, {30, 3, 0}, {31, 4, 9}, {69, 7, 1}, {70, 7, 0}, {71, -1, -1}};
        for (int[] row : rows) {
            Check.due("price " + row[0], x.price(0, row[0], 0), row[1]);
            Check.due("price " + row[0] + " is less by", x.price(0, row[0], 1), row[2]);
        }
        Check.due("just what he has", x.price(1, 5, 0), 8);
        Check.due("one more than he has", x.price(1, 6, 0), -1);
        Check.due("one more than he has", x.price(1, 6, 1), -1);
        LakeMarket none = Check.market(HEAD);
        Check.due("0 without lakes", none.price(0, 0, 0), 0);
        Check.due("0 without lakes", none.price(0, 0, 1), 0);
        Check.due("1 without lakes", none.price(0, 1, 0), -1);
        LakeMarket all = Check.market(HEAD + lakes("a", 1, 2, 3, 4, 5, 6, 7, 8));
        Check.due("all eight", all.price(0, 36, 0), 255);
        Check.due("one more than all eight", all.price(0, 37, 0), -1);
    }

    private static void priceOfLikeOnes() {
        Check.sentence("of like ones the fewest LAKES, then the least bits.");
        LakeMarket x = Check.market(HEAD + lakes("a", 4, 6, 10, 10));
        Check.due("one lake ahead of two", x.price(0, 10, 0), 4);
        Check.due("one lake ahead of two", x.price(0, 9, 0), 4);
        Check.due("two lakes ahead of three, least bits", x.price(0, 20, 0), 12);
        LakeMarket y = Check.market(HEAD + lakes("a", 1, 4, 2, 3));
        Check.due("least bits of two", y.price(0, 5, 0), 3);
        LakeMarket z = Check.market(HEAD + lakes("a", 5, 7) + "worth if(has=5,0,7);");
        Check.due("none that is worth 0", z.price(0, 7, 0), 2);
        Check.due("none at all", z.price(0, 0, 0), 0);
    }

    private static void priceNoneSuch() {
        Check.sentence("NONE when it can't be, there is none such, or for others.");
        LakeMarket x = Check.market(HEAD + "owner c;owner d;owner e;owner f;" + lakes("f", 5));
        Check.due("the last owner", x.price(5, 5, 0), 1);
        int[] none = {-1, 6, Integer.MIN_VALUE, Integer.MAX_VALUE};
        for (int owner : none) {
            Check.due("price(" + owner + ", 0, 0)", x.price(owner, 0, 0), -1);
        }
        LakeMarket two = Check.market(HEAD);
        Check.due("the last one that is told", two.price(1, 0, 0), 0);
        Check.due("one more than is told", two.price(2, 0, 0), -1);
    }

    private static int moves(LakeMarket x, int... rows) {
        Check.rows(x, rows);
        return x.moves();
    }

    private static final String EIGHT = "hollow h holds 999 at 0;hollow i holds 999 at 1;owner a;" + lakes("a", 1, 1, 1, 1, 1, 1, 1, 1);

    private static void refusedMoves(LakeMarket x, int... rows) {
        int before = x.status(5);
        Check.due("none such", moves(x, rows), -1);
        Check.due("refused", x.status(5), before + 1);
        Check.no("the tape went", x.end(1));
    }

    private static void movesRows() {
        Check.sentence("The tape (it goes) tells MOVES, 1 to 8 rows of two bytes");
        LakeMarket x = Check.market(EIGHT);
        refusedMoves(x);
        refusedMoves(x, 0);
        Check.due("1 row", moves(x, 0, 0), 0);
        refusedMoves(x, 0, 0, 1);
        Check.due("2 rows", moves(x, 0, 0, 1, 0), 0);
        Check.due("7 rows", moves(x, 0, 0, 1, 0, 2, 0, 3, 0, 4, 0, 5, 0, 6, 0), 0);
        refusedMoves(x, 0, 0, 1, 0, 2, 0, 3, 0, 4, 0, 5, 0, 6, 0, 7);
        Check.due("8 rows", moves(x, 0, 0, 1, 0, 2, 0, 3, 0, 4, 0, 5, 0, 6, 0, 7, 0), 0);
        refusedMoves(x, 0, 0, 1, 0, 2, 0, 3, 0, 4, 0, 5, 0, 6, 0, 7, 0, 0);
        refusedMoves(x, 0, 0, 1, 0, 2, 0, 3, 0, 4, 0, 5, 0, 6, 0, 7, 0, 0, 0);
    }

    private static void movesUnlikeLakes() {
        Check.sentence("unlike LAKES that are not GONE: the fewest;");
        LakeMarket x = Check.market(EIGHT);
        refusedMoves(x, 0, 0, 0, 0);
        refusedMoves(x, 0, 1, 0, 0);
        refusedMoves(x, 7, 0, 1, 0, 7, 0);
        Check.due("unlike ones in one hollow", moves(x, 0, 1, 7, 1), 2);
        LakeMarket gone = Check.market("hollow h holds 9 at 0;owner a;lake k has 1 in h of a;lake l has 2 in h of a;leaks 1;");
        Check.due("neither is gone", moves(gone, 0, 0, 1, 0), 0);
        gone.nights(1);
        refusedMoves(gone, 0, 0);
        refusedMoves(gone, 0, 0, 1, 0);
        Check.due("one barrel is enough", moves(gone, 1, 0), 0);
    }

    private static void movesThatThereAre() {
        Check.sentence("NONE, when 4 are not enough, and, refused (5), when it is none such.");
        LakeMarket x = Check.market(EIGHT);
        Check.due("the last lake, the last hollow", moves(x, 7, 1), 1);
        refusedMoves(x, 8, 1);
        refusedMoves(x, 255, 1);
        refusedMoves(x, 7, 2);
        refusedMoves(x, 7, 255);
        refusedMoves(x, 0, 0, 8, 0);
        refusedMoves(x, 0, 0, 1, 2);
        LakeMarket one = Check.market(HEAD + lakes("a", 5));
        Check.due("the only lake and hollow", moves(one, 0, 0), 0);
        refusedMoves(one, 1, 0);
        refusedMoves(one, 0, 1);
    }

    private static void movesFourAtMost() {
        Check.sentence("the fewest LAKES moved, one behind the other in this NIGHT (4 at most), so that all lie where they are told.");
        LakeMarket x = Check.market(EIGHT);
        Check.due("none", moves(x, 0, 0), 0);
        Check.due("1", moves(x, 0, 1), 1);
        Check.due("3", moves(x, 0, 1, 1, 1, 2, 1), 3);
        Check.due("4", moves(x, 0, 1, 1, 1, 2, 1, 3, 1), 4);
        Check.due("5", moves(x, 0, 1, 1, 1, 2, 1, 3, 1, 4, 1), -1);
        Check.due("8", moves(x, 0, 1, 1, 1, 2, 1, 3, 1, 4, 1, 5, 1, 6, 1, 7, 1), -1);
        Check.due("4 and four that stay", moves(x, 0, 1, 1, 1, 2, 1, 3, 1, 4, 0, 5, 0, 6, 0, 7, 0), 4);
        StringBuilder row = new StringBuilder("owner a;");
        for (int i = 0; i < 6; i++) {
            row.append("hollow h").append((char) ('a' + i)).append(" holds 9 at ").append(10 * i).append(";");
        }
        LakeMarket step = Check.market(row + "lake l has 9 in ha of a;may steps<11;");
        for (int to = 0; to < 6; to++) {
            Check.due("one lake, " + to + " hollows on", moves(step, 0, to), to < 5 ? to : -1);
        }
    }

    private static void movesOutOfTheWay() {
        Check.sentence("the fewest LAKES moved, one behind the other in this NIGHT (4 at most), so that all lie where they are told.");
        // two that change their hollows: by way of a third one that just holds the one, or does not
        String two = "owner a;lake k has 5 in ha of a;lake l has 6 in hb of a;";
        Check.due("no third one", moves(Check.market(hollows(6, 6) + two), 0, 1, 1, 0), -1);
        Check.due("the third one holds neither", moves(Check.market(hollows(6, 6, 4) + two), 0, 1, 1, 0), -1);
        Check.due("the third one just holds one", moves(Check.market(hollows(6, 6, 5) + two), 0, 1, 1, 0), 3);
        Check.due("the third one just holds one of them, which stays there", moves(Check.market(hollows(6, 6, 5) + two), 1, 0), 2);
        Check.due("there is room for both at once", moves(Check.market(hollows(11, 6) + two), 0, 1, 1, 0), 2);
        Check.due("one barrel too few for that", moves(Check.market(hollows(10, 6) + two), 0, 1, 1, 0), -1);
        // one that lies in the way and is told nothing
        String three = "owner a;lake k has 5 in ha of a;lake l has 6 in hb of a;lake m has 4 in hc of a;";
        Check.due("it goes aside first", moves(Check.market(hollows(9, 6, 8) + three), 0, 1), 3);
        Check.due("it can't", moves(Check.market(hollows(8, 6, 8) + three), 0, 1), -1);
        Check.due("the one that is told goes aside itself", moves(Check.market(hollows(8, 6, 9) + three), 0, 1), 3);
        // four in a row, each must go on by one from the last on
        String chain = "owner a;lake k has 9 in ha of a;lake l has 9 in hb of a;lake m has 9 in hc of a;lake n has 9 in hd of a;";
        Check.due("four go on", moves(Check.market(hollows(9, 9, 9, 9, 9) + chain), 0, 1, 1, 2, 2, 3, 3, 4), 4);
        Check.due("the first one alone is told", moves(Check.market(hollows(9, 9, 9, 9, 9) + chain), 0, 1), 2);
        Check.due("all four go round", moves(Check.market(hollows(9, 9, 9, 9, 9) + chain), 0, 1, 1, 2, 2, 3, 3, 0), -1);
        Check.due("three go round", moves(Check.market(hollows(9, 9, 9, 9, 9) + chain), 0, 1, 1, 2, 2, 0), 4);
        Check.due("no hollow is free", moves(Check.market(hollows(9, 9, 9, 9) + chain), 0, 1, 1, 0), -1);
    }

    private static void movesByWhatLiesThere() {
        Check.sentence("the fewest LAKES moved, one behind the other in this NIGHT (4 at most), so that all lie where they are told.");
        String text = hollows(99, 99, 99) + "owner a;lake k has 5 in ha of a;lake l has 6 in ha of a;lake m has 7 in ha of a;";
        // a lake of 5 goes just where so many lie
        int[][] rows = {{0, 1}, {1, 2}, {2, 3}, {3, -1}};
        for (int[] row : rows) {
            LakeMarket x = Check.market(text + "may has>5 or beside=" + row[0] + ";");
            Check.due("beside " + row[0], moves(x, 0, 1), row[1]);
        }
        // or just where there is so much room
        int[][] rooms = {{99, 1}, {93, 2}, {92, 2}, {86, 3}, {98, -1}};
        for (int[] row : rooms) {
            LakeMarket x = Check.market(text + "may has>5 or free=" + row[0] + ";");
            Check.due("free " + row[0], moves(x, 0, 1), row[1]);
        }
        // one lies there from the first on
        String there = hollows(99, 99, 99) + "owner a;lake k has 5 in ha of a;lake l has 6 in hb of a;lake m has 7 in ha of a;";
        int[][] besides = {{0, 2}, {1, 1}, {2, 2}, {3, -1}};
        for (int[] row : besides) {
            LakeMarket x = Check.market(there + "may has>5 or beside=" + row[0] + ";");
            Check.due("beside " + row[0] + ", one is there", moves(x, 0, 1), row[1]);
        }
        LakeMarket back = Check.market(text + "may has>5 or beside=2;");
        Check.due("company, of which one goes back", moves(back, 0, 1, 1, 0), 4);
        Check.due("company, of which both go back", moves(back, 0, 1, 1, 0, 2, 0), -1);
        LakeMarket carts = Check.market(text + "carts 5;");
        Check.due("the cart's load", moves(carts, 0, 1), 1);
        Check.due("more than it", moves(carts, 0, 1, 1, 1), -1);
        Check.due("more than it that stays", moves(carts, 0, 1, 1, 0, 2, 0), 1);
    }

    private static void movesAskedAgain() {
        Check.sentence("the fewest LAKES moved, one behind the other in this NIGHT (4 at most), so that all lie where they are told.");
        LakeMarket x = Check.market(hollows(9, 9, 9, 9, 9)
                + "owner a;lake k has 9 in ha of a;lake l has 9 in hb of a;lake m has 9 in hc of a;lake n has 9 in hd of a;");
        for (int times = 0; times < 3; times++) {
            Check.due("two", moves(x, 0, 1), 2);
            Check.due("two again", moves(x, 0, 1), 2);
            Check.due("three", moves(x, 0, 1, 1, 0), 3);
            Check.due("three again", moves(x, 0, 1, 1, 0), 3);
            Check.due("four", moves(x, 0, 1, 1, 2, 2, 0), 4);
            Check.due("four again", moves(x, 0, 1, 1, 2, 2, 0), 4);
            Check.due("more", moves(x, 0, 1, 1, 2, 2, 3, 3, 0), -1);
            Check.due("none", moves(x, 0, 0), 0);
        }
        Check.yes("all lie where they lay", x.hollow(0, 3) == 1 && x.hollow(4, 3) == 0);
        Check.due("no act", x.has(9), 0);
    }

    private static void movesNoneIsNotRefused() {
        Check.sentence("NONE, when 4 are not enough, and, refused (5), when it is none such.");
        LakeMarket x = Check.market(EIGHT + "may not all;");
        Check.due("no move may be", moves(x, 0, 1), -1);
        Check.due("not refused", x.status(5), 0);
        Check.due("no move is needed", moves(x, 0, 0), 0);
        Check.no("the tape went", x.end(1));
        LakeMarket carts = Check.market("hollow h holds 9 at 0;hollow i holds 9 at 0;owner a;lake l has 5 in h of a;carts 5;");
        Check.due("as much as carts take", moves(carts, 0, 1), 1);
        carts = Check.market("hollow h holds 9 at 0;hollow i holds 9 at 0;owner a;lake l has 6 in h of a;carts 5;");
        Check.due("one more", moves(carts, 0, 1), -1);
        LakeMarket room = Check.market("hollow h holds 9 at 0;hollow i holds 9 at 0;owner a;lake l has 6 in h of a;lake m has 3 in i of a;");
        Check.due("just room", moves(room, 0, 1), 1);
        room = Check.market("hollow h holds 6 at 0;hollow i holds 9 at 0;owner a;lake l has 6 in h of a;lake m has 4 in i of a;");
        Check.due("one barrel too many", moves(room, 0, 1), -1);
        Check.due("not refused", room.status(5), 0);
    }

    private static String hollows(int... holds) {
        StringBuilder text = new StringBuilder();
        for (int i = 0; i < holds.length; i++) {
            text.append("hollow h").append((char) ('a' + i)).append(" holds ").append(holds[i]).append(" at 0;");
        }
        return text.toString();
    }

    private static void packed(String text, int bits, int count) {
        LakeMarket x = Check.market(text);
        Check.due("hollows of: " + text, x.pack(0, 0), bits);
        Check.due("how many of: " + text, x.pack(0, 1), count);
    }

    private static void packWhole() {
        Check.sentence("PACKED: the fewest HOLLOWS that hold all LAKES of an OWNER, whole ones, all other LAKES staying");
        String two = "owner a;lake k has 5 in ha of a;lake l has 6 in hb of a;";
        packed(hollows(10, 10) + two, 3, 2);
        packed(hollows(11, 10) + two, 1, 1);
        packed(hollows(12, 10) + two, 1, 1);
        packed(hollows(10, 11) + two, 2, 1);
        packed(hollows(11, 11) + two, 1, 1);
        packed(hollows(5, 6, 11) + two, 4, 1);
        packed(hollows(5, 6, 10) + two, 3, 2);
        // 18 barrels and two hollows of 10, but no lake is parted
        packed(hollows(10, 10, 6) + "owner a;lake k has 6 in ha of a;lake l has 6 in hb of a;lake m has 6 in hc of a;", 7, 3);
        packed(hollows(12, 10, 6) + "owner a;lake k has 6 in ha of a;lake l has 6 in hb of a;lake m has 6 in hc of a;", 3, 2);
        StringBuilder eight = new StringBuilder(hollows(9, 9, 9, 9, 9, 9, 9, 9) + "owner a;");
        for (char c = 'a'; c <= 'h'; c++) {
            eight.append("lake l").append(c).append(" has 5 in h").append(c).append(" of a;");
        }
        packed(eight.toString(), 255, 8);
        packed(eight.toString().replace("has 5", "has 4"), 15, 4);
    }

    private static void packOthersStay() {
        Check.sentence("all other LAKES staying (may, carts count for nothing); of like ones the least bits of HOLLOWS.");
        String other = "owner a;owner b;lake k has 5 in ha of a;lake l has 6 in hb of a;lake m has 3 in hc of b;";
        packed(hollows(5, 6, 14) + other, 4, 1);
        packed(hollows(5, 6, 13) + other, 3, 2);
        packed(hollows(5, 6, 14) + other + "may not all;carts 1;", 4, 1);
        packed(hollows(11, 11, 14) + other, 1, 1);
        packed(hollows(10, 11, 14) + other, 2, 1);
        packed(hollows(6, 6, 14) + other.replace("has 3", "has 4"), 3, 2);
        // by their barrels, whatever they are worth
        packed(hollows(5, 6, 14) + other + "worth 9999;", 4, 1);
        packed(hollows(5, 6, 13) + other + "worth 0;", 3, 2);
    }

    private static void packNoneSuch() {
        Check.sentence("NONE when they can't be, there is none such, or for others.");
        LakeMarket x = Check.market(hollows(9) + "owner a;owner b;owner c;owner d;owner e;owner f;lake l has 9 in ha of f;");
        Check.due("the last owner", x.pack(5, 0), 1);
        Check.due("the last owner", x.pack(5, 1), 1);
        Check.due("without lakes", x.pack(0, 0), 0);
        Check.due("without lakes", x.pack(0, 1), 0);
        int[] none = {-1, 6, Integer.MIN_VALUE, Integer.MAX_VALUE};
        for (int owner : none) {
            Check.due("pack(" + owner + ", 0)", x.pack(owner, 0), -1);
            Check.due("pack(" + owner + ", 1)", x.pack(owner, 1), -1);
        }
        Check.due("what -1", x.pack(5, -1), -1);
        Check.due("what 2", x.pack(5, 2), -1);
        LakeMarket two = Check.market(HEAD);
        Check.due("one more than is told", two.pack(2, 0), -1);
        Check.due("no hollows", Check.market("owner a;").pack(0, 1), 0);
    }

    private static void net() {
        Check.sentence("NET of an OWNER; NOTHING when there is none such.");
        LakeMarket x = Check.market(HEAD + "owes a b 8;owes b a 7;");
        Check.due("-1 is a net", x.net(0), -1);
        Check.due("1", x.net(1), 1);
        int[] none = {-1, 2, 6, Integer.MIN_VALUE, Integer.MAX_VALUE};
        for (int owner : none) {
            Check.due("net(" + owner + ")", x.net(owner), -1000000000);
        }
        Check.due("0", Check.market(HEAD + "owes a b 8;owes b a 8;").net(0), 0);
        LakeMarket six = Check.market("owner a;owner b;owner c;owner d;owner e;owner f;");
        Check.due("without debts", six.net(5), 0);
        Check.due("one more", six.net(6), LakeMarket.NOTHING);
        int[] row = Check.picture(six);
        for (int other = 1; other < 6; other++) {
            row[2 + 2 * other] = 39;
            row[3 + 2 * other] = 15;
        }
        Check.yes("on", Check.on(six, Check.checked(row)));
        Check.due("the least there is", six.net(0), -5 * 9999);
        Check.due("what is owed to the last", six.net(5), 9999);
    }

    private static void settling() {
        Check.sentence("SETTLING: the fewest payments (each of one OWNER to another one) by which all NETS would be 0.");
        String six = "owner a;owner b;owner c;owner d;owner e;owner f;";
        Check.due("nobody", new LakeMarket().settling(), 0);
        Check.due("one owner", Check.market("owner a;").settling(), 0);
        Check.due("no debts", Check.market(six).settling(), 0);
        Check.due("a debt of 0", Check.market(six + "owes a b 0;").settling(), 0);
        Check.due("a debt of 1", Check.market(six + "owes a b 1;").settling(), 1);
        Check.due("like debts both ways", Check.market(six + "owes a b 9;owes b a 9;").settling(), 0);
        Check.due("unlike debts both ways", Check.market(six + "owes a b 9;owes b a 8;").settling(), 1);
        Check.due("a ring of six", Check.market(six + "owes a b 9;owes b c 9;owes c d 9;owes d e 9;owes e f 9;owes f a 9;").settling(), 0);
        Check.due("a ring of six less 1", Check.market(six + "owes a b 9;owes b c 9;owes c d 9;owes d e 9;owes e f 9;owes f a 8;").settling(), 1);
        Check.due("five at most", Check.market(six + "owes a f 1;owes b f 2;owes c f 4;owes d f 8;owes e f 16;").settling(), 5);
        Check.due("four: two groups", Check.market(six + "owes a f 1;owes b f 2;owes c e 4;owes d e 8;").settling(), 4);
        Check.due("three: three groups", Check.market(six + "owes a f 1;owes b e 2;owes c d 4;").settling(), 3);
        Check.due("two of 1 to one of 2", Check.market(six + "owes a c 1;owes b c 1;").settling(), 2);
        Check.due("one of 2 to two of 1", Check.market(six + "owes a b 1;owes a c 1;").settling(), 2);
        Check.due("two pairs of tens", Check.market(six + "owes a b 10;owes c d 30;").settling(), 2);
        Check.due("a three and a pair of tens", Check.market(six + "owes a b 10;owes a c 20;owes d e 50;").settling(), 3);
        Check.due("a pair that nearly is one", Check.market(six + "owes a b 10;owes c d 30;owes a d 1;").settling(), 3);
    }

    /** What was asked before counts for nothing. */
    private static void settlingAgain() {
        Check.sentence("SETTLING: the fewest payments (each of one OWNER to another one) by which all NETS would be 0.");
        LakeMarket x = Check.market("hollow h holds 99 at 0;owner a;owner b;owner c;owner d;owner e;owner f;" + lakes("a", 1, 2, 3, 4, 5, 6, 7, 8)
                + "owes a b 10;owes c d 20;owes e f 40;");
        Check.due("three pairs", x.settling(), 3);
        x.price(0, 20, 0);
        x.pack(0, 0);
        x.share(0, 3, -1);
        Check.due("three pairs still", x.settling(), 3);
        int[] row = Check.picture(x);
        int[] debts = new int[36];
        for (int owner = 0; owner < 5; owner++) {
            debts[owner * 6 + 5] = 1 << owner;
        }
        for (int i = 0; i < 36; i++) {
            row[34 + 2 * i] = 0;
            row[35 + 2 * i] = debts[i];
        }
        Check.yes("on", Check.on(x, Check.checked(row)));
        Check.due("all six in one", x.settling(), 5);
        Check.due("price", x.price(0, 36, 0), 255);
        Check.due("share", x.share(0, 2, -1), 0);
        Check.due("all six in one", x.settling(), 5);
    }

    private static void shareHeirs() {
        Check.sentence("all LAKES of an OWNER go to 2 or 3 heirs, so that the greatest share less the least one (by what they are worth) is least;");
        LakeMarket x = Check.market(HEAD + lakes("a", 6, 5, 4));
        Check.due("2 heirs", x.share(0, 2, -1), 3);
        Check.due("3 heirs", x.share(0, 3, -1), 2);
        int[] none = {-1, 0, 1, 4, 5, Integer.MIN_VALUE, Integer.MAX_VALUE};
        for (int heirs : none) {
            Check.due("share(0, " + heirs + ", -1)", x.share(0, heirs, -1), -1);
            Check.due("share(0, " + heirs + ", 0)", x.share(0, heirs, 0), -1);
        }
        LakeMarket fewer = Check.market(HEAD + lakes("a", 6, 5));
        Check.due("2 lakes, 3 heirs: one has nothing", fewer.share(0, 3, -1), 6);
        LakeMarket one = Check.market(HEAD + lakes("a", 6));
        Check.due("1 lake, 2 heirs", one.share(0, 2, -1), 6);
        Check.due("no lake", one.share(1, 2, -1), 0);
        Check.due("no lake", one.share(1, 3, -1), 0);
        LakeMarket eight = Check.market(HEAD + lakes("a", 1, 2, 3, 4, 5, 6, 7, 8) + "worth 9999;");
        Check.due("eight, 2 heirs", eight.share(0, 2, -1), 0);
        Check.due("eight, 3 heirs", eight.share(0, 3, -1), 9999);
    }

    private static void shareLakes() {
        Check.sentence("the greatest less the least (lake NONE), the heir (0 and on) of a LAKE. NONE when there are none such, it is not his, or for others.");
        LakeMarket x = Check.market(HEAD + lakes("a", 6, 5, 4) + "lake z has 9 in h of b;");
        Check.due("lake -2", x.share(0, 3, -2), -1);
        Check.due("lake -1", x.share(0, 3, -1), 2);
        Check.due("lake 0", x.share(0, 3, 0), 0);
        Check.due("lake 2", x.share(0, 3, 2), 2);
        Check.due("lake 3 is not his", x.share(0, 3, 3), -1);
        Check.due("lake 3 is b's", x.share(1, 3, 3), 0);
        Check.due("lake 4", x.share(0, 3, 4), -1);
        Check.due("lake 8", x.share(0, 3, 8), -1);
        Check.due("lake most", x.share(0, 3, Integer.MAX_VALUE), -1);
        Check.due("lake least", x.share(0, 3, Integer.MIN_VALUE), -1);
        int[] none = {-1, 2, 6, Integer.MIN_VALUE, Integer.MAX_VALUE};
        for (int owner : none) {
            Check.due("share(" + owner + ", 2, -1)", x.share(owner, 2, -1), -1);
            Check.due("share(" + owner + ", 2, 0)", x.share(owner, 2, 0), -1);
        }
        x.pour(0, 1);
        Check.due("one that is gone", x.share(0, 2, 1), -1);
        Check.due("one that is gone is nobody's", x.share(-1, 2, 1), -1);
    }

    private static void shareOfLikeOnes() {
        Check.sentence("of like ones LAKE by LAKE the first heirs.");
        LakeMarket x = Check.market(HEAD + lakes("a", 3, 3, 3, 3));
        int[] two = {0, 0, 1, 1};
        int[] three = {0, 0, 1, 2};
        for (int lake = 0; lake < 4; lake++) {
            Check.due("2 heirs, lake " + lake, x.share(0, 2, lake), two[lake]);
            Check.due("3 heirs, lake " + lake, x.share(0, 3, lake), three[lake]);
        }
        LakeMarket nothing = Check.market(HEAD + lakes("a", 3, 4) + "worth 0;");
        Check.due("worth nothing", nothing.share(0, 3, 0), 0);
        Check.due("worth nothing", nothing.share(0, 3, 1), 0);
        // one less or more is no like one
        LakeMarket uneven = Check.market(HEAD + lakes("a", 3, 3, 3, 9));
        int[] want = {0, 0, 0, 1};
        for (int lake = 0; lake < 4; lake++) {
            Check.due("three against one, lake " + lake, uneven.share(0, 2, lake), want[lake]);
        }
    }

    private static int stood(LakeMarket x, int... rows) {
        Check.rows(x, rows);
        return x.stood();
    }

    private static void refusedStood(LakeMarket x, int... rows) {
        int before = x.status(5);
        Check.due("none such", stood(x, rows), -1);
        Check.due("refused", x.status(5), before + 1);
        Check.no("the tape went", x.end(1));
    }

    private static int[] rowsOf(int bytes) {
        int[] rows = new int[bytes];
        for (int k = 0; k < bytes; k += 3) {
            rows[k] = k / 3 % 8;
        }
        return rows;
    }

    private static void stoodRows() {
        Check.sentence("The tape (it goes) tells STOOD, 1 to 8 rows of three bytes, LAKE, BARRELS (two bytes, 999 at most): how many rows;");
        LakeMarket x = Check.market(EIGHT);
        for (int bytes = 0; bytes <= 28; bytes++) {
            if (bytes % 3 == 0 && bytes >= 3 && bytes <= 24) {
                Check.due(bytes + " bytes", stood(x, rowsOf(bytes)), bytes / 3);
                Check.no("the tape went", x.end(1));
            } else {
                refusedStood(x, rowsOf(bytes));
            }
        }
    }

    private static void stoodBarrels() {
        Check.sentence("BARRELS (two bytes, 999 at most)");
        LakeMarket x = Check.market(EIGHT);
        Check.due("0", stood(x, 0, 0, 0), 1);
        Check.due("255", stood(x, 0, 0, 255), 1);
        Check.due("256", stood(x, 0, 1, 0), 1);
        Check.due("998", stood(x, 0, 3, 230), 1);
        Check.due("999", stood(x, 0, 3, 231), 1);
        refusedStood(x, 0, 3, 232);
        refusedStood(x, 0, 4, 0);
        refusedStood(x, 0, 255, 255);
        refusedStood(x, 0, 3, 231, 1, 3, 232);
        LakeMarket big = Check.market("hollow h holds 999 at 0;owner a;lake l has 999 in h of a;");
        stood(big, 0, 3, 230);
        Check.due("998 of 999", big.robbed(1), 1);
        stood(big, 0, 1, 0);
        Check.due("256 of 999", big.robbed(743), 1);
        stood(big, 0, 0, 255);
        Check.due("255 of 999", big.robbed(744), 1);
    }

    private static void stoodLakes() {
        Check.sentence("NONE, refused (5), all staying, when it is none such.");
        LakeMarket x = Check.market(EIGHT);
        Check.due("lake 7", stood(x, 7, 0, 1), 1);
        refusedStood(x, 8, 0, 1);
        refusedStood(x, 255, 0, 1);
        refusedStood(x, 0, 0, 1, 8, 0, 1);
        LakeMarket one = Check.market(HEAD + lakes("a", 5));
        Check.due("the only one", stood(one, 0, 0, 5), 1);
        refusedStood(one, 1, 0, 5);
        refusedStood(new LakeMarket(), 0, 0, 0);
    }

    private static void stoodStays() {
        Check.sentence("NONE, refused (5), all staying, when it is none such.");
        LakeMarket x = Check.market(HEAD + lakes("a", 5, 6));
        stood(x, 0, 0, 3, 1, 0, 6);
        Check.due("told", x.robbed(2), 1);
        // the rows that are refused are good ones but for the last byte or row
        int[][] none = {{}, {1}, {1, 0, 6, 0}, {1, 0, 6, 2, 0, 0}, {1, 0, 6, 0, 3, 232}};
        for (int[] rows : none) {
            refusedStood(x, rows);
            Check.due("told still", x.robbed(2), 1);
        }
        Check.due("others are told", stood(x, 1, 0, 6), 1);
        Check.due("the rows before are told no more", x.robbed(2), 256 + 1);
    }

    private static void robbedBarrels() {
        Check.sentence("a thief who takes so many (1 .. 999): LAKES he can have been at, as bits, and 256 if nobody can have come.");
        LakeMarket x = Check.market("hollow h holds 999 at 0;owner a;lake l has 999 in h of a;");
        stood(x, 0, 3, 230);
        Check.due("1", x.robbed(1), 1);
        Check.due("2", x.robbed(2), 0);
        stood(x, 0, 0, 1);
        Check.due("998", x.robbed(998), 1);
        stood(x, 0, 0, 0);
        Check.due("999", x.robbed(999), 1);
        Check.due("998", x.robbed(998), 0);
        int[] none = {0, -1, 1000, Integer.MIN_VALUE, Integer.MAX_VALUE};
        for (int barrels : none) {
            Check.due("robbed(" + barrels + ")", x.robbed(barrels), -1);
        }
        LakeMarket eight = Check.market(EIGHT);
        stood(eight, 7, 0, 0);
        Check.due("the last lake", eight.robbed(1), 128);
        stood(eight, 0, 0, 1);
        Check.due("all others, or nobody", eight.robbed(1), 256 + 254);
    }

    private static void robbedAheadOfAny() {
        Check.sentence("NONE ahead of any, or for others.");
        LakeMarket x = Check.market(EIGHT);
        Check.due("ahead of any", x.robbed(1), -1);
        refusedStood(x, 8, 0, 1);
        Check.due("ahead of any that is good", x.robbed(1), -1);
        stood(x, 0, 0, 1);
        Check.due("behind one", x.robbed(1), 256 + 254);
        Check.tell(x, EIGHT);
        Check.due("ahead of any of this lowland", x.robbed(1), -1);
    }

    private static void robbedAllThatAreLeft() {
        Check.sentence("a thief takes so many BARRELS (or all that are left) from just one LAKE that has some left, or nobody comes");
        LakeMarket x = Check.market(HEAD + lakes("a", 6) + "leaks 1;");
        // five are left behind the night
        stood(x, 0, 0, 0);
        Check.due("4 of 5 leave 1", x.robbed(4), 0);
        Check.due("5 of 5", x.robbed(5), 1);
        Check.due("6 of 5", x.robbed(6), 1);
        Check.due("999 of 5", x.robbed(999), 1);
        stood(x, 0, 0, 1);
        Check.due("3 of 5 leave 2", x.robbed(3), 0);
        Check.due("4 of 5", x.robbed(4), 1);
        Check.due("5 of 5 leave 0", x.robbed(5), 0);
        stood(x, 0, 0, 5);
        Check.due("nobody", x.robbed(1), 256);
        stood(x, 0, 0, 6);
        Check.due("more than are left", x.robbed(1), 0);
    }

    private static void robbedWithoutADrought() {
        Check.sentence("STOOD are rows of LAKE, BARRELS, behind the next NIGHT, in which, when all has leaked");
        LakeMarket x = Check.market(HEAD + lakes("a", 6) + "leaks 1+drought;drought 100;");
        int[] left = {4, 5, 6};
        for (int barrels : left) {
            stood(x, 0, 0, barrels);
            Check.due("stood with " + barrels, x.robbed(1), barrels == 5 ? 256 : barrels == 4 ? 1 : 0);
        }
        x.nights(1);
        Check.due("the next night is another one now", x.robbed(1), 0);
        stood(x, 0, 0, 4);
        Check.due("behind the next night", x.robbed(1), 256);
        Check.due("nothing leaks of itself", x.lake(0, 0), 5);
    }

    private static void robbedSomeLeft() {
        Check.sentence("from just one LAKE that has some left");
        int[] leaks = {1, 2, 3};
        for (int leak : leaks) {
            // the second lake has 1, 0, 0 left behind the night
            LakeMarket x = Check.market(HEAD + lakes("a", 9, 2) + "leaks " + leak + ";");
            stood(x, 0, 0, 9 - leak);
            Check.due("leaks " + leak, x.robbed(1), leak == 1 ? 256 + 2 : 256);
            stood(x, 1, 0, 0);
            Check.due("leaks " + leak, x.robbed(1), leak == 1 ? 2 : 256 + 1);
        }
    }

    private static void robbedJustOne() {
        Check.sentence("from just one LAKE that has some left, or nobody comes: LAKES he can have been at.");
        LakeMarket x = Check.market(HEAD + lakes("a", 5, 6));
        stood(x, 0, 0, 5, 1, 0, 6);
        Check.due("none is robbed", x.robbed(1), 256);
        stood(x, 0, 0, 4, 1, 0, 6);
        Check.due("one is robbed", x.robbed(1), 1);
        stood(x, 0, 0, 4, 1, 0, 5);
        Check.due("two are robbed", x.robbed(1), 0);
        stood(x, 0, 0, 4);
        Check.due("one that is told", x.robbed(1), 1);
        stood(x, 0, 0, 5);
        Check.due("one that is not told, or none", x.robbed(1), 256 + 2);
    }
}
