import java.util.Arrays;

/** Promises 33 to 35: image, octet, on. */
public final class ImageTest {
    private static final String TEXT = "hollow h holds 600 at 0;hollow i holds 500 at 40;owner a;owner b;"
            + "lake k has 300 in h of a;lake l has 10 in h of a;lake m has 5 in i of b;owes a b 515;owes b a 7;";

    public static void main(String[] args) {
        image();
        latest();
        on();
        allIsAsItTells();
        notOn();
        limits();
        ofThisLowland();
        Check.finish();
    }

    private static int check(int[] row, int length) {
        int c = 149;
        for (int k = 0; k < length; k++) {
            c = (5 * c + row[k]) % 251;
        }
        return c;
    }

    private static int[] checked(int... row) {
        int[] all = Arrays.copyOf(row, row.length + 1);
        all[row.length] = check(row, row.length);
        return all;
    }

    private static int[] take(LakeMarket x) {
        int[] row = new int[x.image()];
        for (int k = 0; k < row.length; k++) {
            row[k] = x.octet(k);
        }
        return row;
    }

    private static boolean on(LakeMarket x, int... row) {
        Check.rows(x, row);
        return x.on();
    }

    private static void image() {
        LakeMarket x = Check.market(TEXT);
        x.pour(0, 1);
        for (int i = 0; i < 3; i++) {
            x.nights(100);
        }
        int[] want = checked(1, 44, 1, 54, 0, 0, 0, 0, 255, 255, 0, 5, 1, 1, 0, 0, 2, 3, 0, 7, 0, 0);
        Check.due("image", x.image(), want.length);
        for (int k = 0; k < want.length; k++) {
            Check.due("octet(" + k + ")", x.octet(k), want[k]);
        }
        Check.due("behind it", x.octet(want.length), -1);
        Check.due("ahead of it", x.octet(-1), -1);
        LakeMarket none = new LakeMarket();
        Check.due("ahead of any", none.octet(0), -1);
        Check.due("of nothing", none.image(), 3);
        // 149, then twice 0: 5 * 149 mod 251 is 243, 5 * 243 mod 251 is 211
        int[] nothing = {0, 0, 211, -1};
        for (int k = 0; k < 4; k++) {
            Check.due("of nothing, octet " + k, none.octet(k), nothing[k]);
        }
    }

    private static void latest() {
        LakeMarket x = Check.market(TEXT);
        x.image();
        int first = x.octet(0);
        int second = x.octet(1);
        x.nights(5);
        Check.due("the latest image stays", x.octet(0), first);
        Check.due("the latest image stays", x.octet(1), second);
        x.image();
        Check.due("a new one", x.octet(1), 5);
    }

    private static void on() {
        LakeMarket x = Check.market(TEXT + "leaks 1;");
        int[] start = take(x);
        x.nights(4);
        x.pay(0, 1, 3);
        x.move(2, 0);
        int[] then = take(x);
        Check.yes("on", on(x, start));
        Check.due("night", x.has(3), 0);
        Check.due("barrels", x.has(5), 315);
        Check.due("nothing is kept", x.has(8), 0);
        Check.due("no act can be undone", x.has(9), 0);
        Check.no("no act can be undone", x.undo());
        Check.due("the tape went", x.feed(0, 0, 0, 0, 0), 20);
        Check.yes("end", x.end(0));
        Check.yes("on", on(x, then));
        Check.yes("as it was", Arrays.equals(take(x), then));
        Check.due("night", x.has(3), 4);
        Check.due("hollow", x.lake(2, 1), 0);
        Check.due("owner", x.lake(0, 2), 1);
        Check.due("the seed stays", x.has(10), 1);
        Check.rows(x, 0, 0, 1);
        x.stood();
        Check.yes("on", on(x, then));
        Check.yes("rows stay told", x.robbed(1) >= 0);
        Check.yes("of nothing", on(new LakeMarket(), 0, 0, 211));
    }

    private static void allIsAsItTells() {
        LakeMarket x = Check.market(TEXT);
        Check.yes("on", on(x, checked(39, 15, 0, 0, 255, 255, 2, 88, 0, 1, 1, 244, 1, 0, 0, 0, 39, 15, 39, 15, 0, 0)));
        Check.due("night", x.has(3), 9999);
        int[][] want = {{0, -1, -1}, {600, 0, 1}, {500, 1, 0}};
        for (int lake = 0; lake < 3; lake++) {
            for (int what = 0; what < 3; what++) {
                Check.due("lake(" + lake + ", " + what + ")", x.lake(lake, what), want[lake][what]);
            }
        }
        Check.due("owes", x.owes(0, 1), 9999);
        Check.due("owes", x.owes(1, 0), 9999);
    }

    private static void notOn() {
        LakeMarket x = Check.market(TEXT);
        x.nights(1);
        int[] good = take(x);
        int refused = 0;
        int[][] lengths = {{}, Arrays.copyOf(good, good.length - 1), checked(good), Arrays.copyOf(good, good.length - 2)};
        for (int[] row : lengths) {
            Check.no("another length", on(x, row));
            refused++;
            Check.due("refused", x.status(5), refused);
        }
        for (int k = 0; k < good.length; k++) {
            LakeMarket y = Check.market(TEXT);
            y.nights(1);
            int[] row = good.clone();
            row[k] = (row[k] + 1) % 256;
            Check.no("byte " + k + " is another one", on(y, row));
            Check.due("refused", y.status(5), 1);
            Check.yes("all stays", Arrays.equals(take(y), good));
            Check.due("acts stay", y.has(9), 1);
        }
        Check.yes("on", on(x, good));
    }

    /** Whether an image with these bytes put in at a place is one. */
    private static boolean put(int place, int... bytes) {
        LakeMarket x = Check.market(TEXT);
        int[] row = take(x);
        System.arraycopy(bytes, 0, row, place, bytes.length);
        row[row.length - 1] = check(row, row.length - 1);
        boolean answer = on(x, row);
        Check.due("refused", x.status(5), answer ? 0 : 1);
        Check.due("all stays, or is as it tells", x.image(), row.length);
        for (int k = 0; answer && k < row.length; k++) {
            Check.due("octet", x.octet(k), row[k]);
        }
        return answer;
    }

    private static void limits() {
        Check.yes("night 9999", put(0, 39, 15));
        Check.no("night 10000", put(0, 39, 16));
        Check.no("night 65535", put(0, 255, 255));
        Check.yes("gone", put(2, 0, 0, 255, 255));
        Check.no("0 with a hollow", put(2, 0, 0, 0, 255));
        Check.no("0 with an owner", put(2, 0, 0, 255, 0));
        Check.no("0 with both", put(2, 0, 0, 0, 0));
        Check.no("barrels with 255", put(2, 0, 5, 255, 255));
        Check.no("barrels without a hollow", put(2, 0, 5, 255, 0));
        Check.no("barrels without an owner", put(2, 0, 5, 0, 255));
        Check.no("no such hollow", put(2, 0, 5, 2, 0));
        Check.no("no such owner", put(2, 0, 5, 0, 2));
        Check.yes("another hollow, another owner", put(2, 0, 5, 1, 1));
        Check.yes("just as much as it holds", put(2, 2, 78, 0, 0));
        Check.no("more than it holds", put(2, 2, 79, 0, 0));
        Check.no("1000 barrels", put(2, 3, 232, 0, 0));
        Check.yes("a debt of 9999", put(16, 39, 15));
        Check.no("a debt of 10000", put(16, 39, 16));
        Check.no("owes himself", put(14, 0, 1));
        Check.no("owes himself", put(20, 1, 0));
        LakeMarket x = Check.market("hollow h holds 999 at 0;owner a;lake l has 1 in h of a;");
        Check.yes("999", on(x, checked(0, 0, 3, 231, 0, 0, 0, 0)));
        Check.no("1000", on(x, checked(0, 0, 3, 232, 0, 0, 0, 0)));
    }

    private static void ofThisLowland() {
        LakeMarket x = Check.market(TEXT);
        int[] other = take(x);
        Check.tell(x, "hollow h holds 600 at 0;owner a;");
        Check.no("of another lowland", on(x, other));
        Check.yes("of this one", on(x, checked(0, 9, 0, 0)));
        Check.due("night", x.has(3), 9);
    }
}
