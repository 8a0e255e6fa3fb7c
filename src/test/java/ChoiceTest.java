/** Promises 15, 17 to 20: price, pack, net, settling, share. */
public final class ChoiceTest {
    public static void main(String[] args) {
        price();
        priceTies();
        pack();
        packTies();
        net();
        settling();
        share();
        shareTies();
        Check.finish();
    }

    private static String lakes(String owner, int... barrels) {
        StringBuilder text = new StringBuilder();
        for (int i = 0; i < barrels.length; i++) {
            text.append("lake ").append((char) ('k' + i)).append(" has ").append(barrels[i]).append(" in h of ")
                    .append(owner).append(";");
        }
        return text.toString();
    }

    private static final String HEAD = "hollow h holds 999 at 0;owner a;owner b;";

    private static void price() {
        LakeMarket x = Check.market(HEAD + lakes("a", 5, 9, 12) + "lake z has 2 in h of b;");
        int[][] want = {{0, 0, 0}, {1, 1, 4}, {5, 1, 0}, {6, 2, 3}, {10, 4, 2}, {13, 3, 1}, {15, 5, 2}, {18, 6, 3},
            {22, 7, 4}, {26, 7, 0}};
        for (int[] row : want) {
            Check.due("price(0, " + row[0] + ", 0)", x.price(0, row[0], 0), row[1]);
            Check.due("price(0, " + row[0] + ", 1)", x.price(0, row[0], 1), row[2]);
        }
        Check.due("too much", x.price(0, 27, 0), -1);
        Check.due("too much", x.price(0, 27, 1), -1);
        Check.due("too much", x.price(0, 9999, 0), -1);
        Check.due("only his", x.price(1, 1, 0), 8);
        Check.due("only his", x.price(1, 3, 0), -1);
        Check.due("no price", x.price(0, -1, 0), -1);
        Check.due("no price", x.price(0, 10000, 0), -1);
        Check.due("none such", x.price(2, 1, 0), -1);
        Check.due("none such", x.price(-1, 1, 0), -1);
        Check.due("no such what", x.price(0, 1, 2), -1);
        Check.due("no such what", x.price(0, 1, -1), -1);
        LakeMarket dear = Check.market(HEAD + lakes("a", 5, 9) + "worth 9999;");
        Check.due("9999", dear.price(0, 9999, 0), 1);
        Check.due("9999", dear.price(0, 9999, 1), 0);
    }

    private static void priceTies() {
        LakeMarket x = Check.market(HEAD + lakes("a", 3, 4, 7, 7));
        Check.due("the fewest", x.price(0, 7, 0), 4);
        Check.due("the least bits", x.price(0, 6, 0), 4);
        Check.due("the fewest, then the least bits", x.price(0, 14, 0), 12);
        LakeMarket y = Check.market(HEAD + lakes("a", 3, 3, 3, 3));
        Check.due("least bits", y.price(0, 5, 0), 3);
        LakeMarket z = Check.market(HEAD + lakes("a", 3, 5, 8) + "worth if(has=3,0,has);");
        Check.due("none that is worth nothing", z.price(0, 0, 0), 0);
        Check.due("none that is worth nothing", z.price(0, 5, 0), 2);
    }

    private static void pack() {
        LakeMarket x = Check.market("hollow h holds 10 at 0;hollow i holds 10 at 0;hollow j holds 7 at 0;owner a;owner b;owner c;"
                + "lake l has 6 in h of a;lake m has 4 in i of a;lake n has 5 in j of a;lake o has 3 in i of b;carts 1;may not all;");
        // without a's own lakes there is room for 10, 7 and 7
        Check.due("two hollows", x.pack(0, 1), 2);
        Check.due("the least bits", x.pack(0, 0), 3);
        Check.due("one hollow: the least bits", x.pack(1, 0), 1);
        Check.due("one hollow", x.pack(1, 1), 1);
        Check.due("without lakes", x.pack(2, 0), 0);
        Check.due("without lakes", x.pack(2, 1), 0);
        Check.due("none such", x.pack(3, 0), -1);
        Check.due("none such", x.pack(-1, 0), -1);
        Check.due("no such what", x.pack(0, 2), -1);
        Check.due("no such what", x.pack(0, -1), -1);
    }

    private static void packTies() {
        // whole lakes: 18 barrels in all, but the three lakes of 6 do not fit two hollows of 9
        LakeMarket x = Check.market("hollow g holds 9 at 0;hollow h holds 9 at 0;hollow i holds 9 at 0;hollow j holds 12 at 0;"
                + "owner a;lake l has 6 in g of a;lake m has 6 in h of a;lake n has 6 in i of a;");
        Check.due("two hollows", x.pack(0, 1), 2);
        Check.due("the least bits", x.pack(0, 0), 9);
        LakeMarket y = Check.market("hollow g holds 9 at 0;hollow h holds 9 at 0;hollow i holds 9 at 0;hollow j holds 9 at 0;"
                + "owner a;lake l has 6 in g of a;lake m has 6 in h of a;lake n has 6 in j of a;");
        Check.due("three hollows", y.pack(0, 1), 3);
        Check.due("the least bits", y.pack(0, 0), 7);
        LakeMarket z = Check.market("hollow g holds 5 at 0;hollow h holds 5 at 0;hollow i holds 10 at 0;"
                + "owner a;lake l has 5 in g of a;lake m has 5 in h of a;");
        Check.due("fewer hollows ahead of least bits", z.pack(0, 0), 4);
    }

    private static void net() {
        LakeMarket x = Check.market("owner a;owner b;owner c;owes a b 30;owes b c 8;owes c a 4;owes a c 1;");
        Check.due("net(0)", x.net(0), 4 - 31);
        Check.due("net(1)", x.net(1), 22);
        Check.due("net(2)", x.net(2), 5);
        Check.due("none such", x.net(3), -1000000000);
        Check.due("none such", x.net(-1), -1000000000);
        Check.due("none such", x.net(6), LakeMarket.NOTHING);
    }

    private static int settling(String debts) {
        return Check.market("owner a;owner b;owner c;owner d;owner e;owner f;" + debts).settling();
    }

    private static void settling() {
        Check.due("no debts", settling(""), 0);
        Check.due("one", settling("owes a b 5;"), 1);
        Check.due("a ring of like debts", settling("owes a b 5;owes b c 5;owes c a 5;"), 0);
        Check.due("through another one", settling("owes a b 5;owes b c 5;"), 1);
        Check.due("two", settling("owes a b 5;owes a c 6;"), 2);
        Check.due("two pairs", settling("owes a b 5;owes c d 6;"), 2);
        Check.due("two pairs, told crosswise", settling("owes a b 3;owes a d 2;owes c d 4;owes c b 2;"), 2);
        Check.due("three pairs", settling("owes a b 5;owes c d 6;owes e f 7;"), 3);
        Check.due("two threes", settling("owes a b 1;owes a c 2;owes d e 4;owes d f 8;"), 4);
        Check.due("all six", settling("owes a f 1;owes b f 2;owes c f 4;owes d f 8;owes e f 16;"), 5);
        // nets -5 and +5 settle by one payment; -4, -1, +2 and +3 just all together, by three
        Check.due("a net of 1", settling("owes a b 1;"), 1);
        Check.due("a pair and a four", settling("owes a f 5;owes b d 2;owes b e 2;owes c e 1;"), 4);
    }

    private static void share() {
        LakeMarket x = Check.market(HEAD + lakes("a", 7, 5, 4, 3) + "lake z has 2 in h of b;");
        Check.due("two heirs", x.share(0, 2, -1), 1);
        int[] two = {0, 1, 1, 0};
        for (int lake = 0; lake < 4; lake++) {
            Check.due("two heirs, lake " + lake, x.share(0, 2, lake), two[lake]);
        }
        Check.due("three heirs", x.share(0, 3, -1), 2);
        int[] three = {0, 1, 2, 2};
        for (int lake = 0; lake < 4; lake++) {
            Check.due("three heirs, lake " + lake, x.share(0, 3, lake), three[lake]);
        }
        Check.due("not his", x.share(0, 2, 4), -1);
        Check.due("his", x.share(1, 2, 4), 0);
        Check.due("one lake", x.share(1, 2, -1), 2);
        Check.due("one lake", x.share(1, 3, -1), 2);
        Check.due("no lake", x.share(0, 2, 5), -1);
        Check.due("no lake", x.share(0, 2, -2), -1);
        Check.due("no heirs", x.share(0, 1, -1), -1);
        Check.due("no heirs", x.share(0, 4, -1), -1);
        Check.due("no heirs", x.share(0, 0, 0), -1);
        Check.due("none such", x.share(2, 2, -1), -1);
        Check.due("none such", x.share(-1, 2, -1), -1);
        Check.due("pour", x.pour(0, 1), 12);
        Check.due("a lake that is gone", x.share(0, 2, 1), -1);
        LakeMarket none = Check.market(HEAD);
        Check.due("nothing to share", none.share(0, 2, -1), 0);
        Check.due("nothing to share", none.share(0, 3, -1), 0);
    }

    private static void shareTies() {
        LakeMarket x = Check.market(HEAD + lakes("a", 5, 5, 5, 5));
        int[] two = {0, 0, 1, 1};
        int[] three = {0, 0, 1, 2};
        for (int lake = 0; lake < 4; lake++) {
            Check.due("two heirs", x.share(0, 2, lake), two[lake]);
            Check.due("three heirs", x.share(0, 3, lake), three[lake]);
        }
        LakeMarket y = Check.market(HEAD + lakes("a", 5, 4, 9) + "worth 0;");
        for (int lake = 0; lake < 3; lake++) {
            Check.due("worth nothing: all to the first", y.share(0, 3, lake), 0);
        }
        LakeMarket z = Check.market(HEAD + lakes("a", 1, 1, 9) + "worth has;");
        Check.due("two ones against nine", z.share(0, 2, 1), 0);
        Check.due("two ones against nine", z.share(0, 2, 2), 1);
    }
}
