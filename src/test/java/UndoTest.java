/** Promises 30 and 32: undo, kept. */
public final class UndoTest {
    private static final String TEXT = "hollow h holds 60 at 0;hollow i holds 60 at 40;owner a;owner b;"
            + "lake k has 20 in h of a;lake l has 10 in h of a;lake m has 5 in i of b;leaks 1+drought;drought 50;"
            + "owes a b 50;owes b a 7;";

    public static void main(String[] args) {
        everyAct();
        twentyActs();
        actsBehindUndone();
        theSeedStays();
        kept();
        fortyKept();
        keptComesBack();
        Check.finish();
    }

    private static String look(LakeMarket x) {
        StringBuilder all = new StringBuilder();
        int size = x.image();
        for (int k = 0; k < size; k++) {
            all.append(x.octet(k)).append(' ');
        }
        int kept = x.has(8);
        all.append("kept ").append(kept);
        for (int k = 0; k < kept; k++) {
            for (int what = 0; what < 4; what++) {
                all.append(' ').append(x.kept(k, what));
            }
        }
        return all.toString();
    }

    private static void act(LakeMarket x, int which) {
        switch (which) {
            case 0: Check.due("nights", x.nights(6), 17); break;
            case 1: x.chance(3); break;
            case 2: Check.yes("move", x.move(0, 1)); break;
            case 3: Check.due("pour", x.pour(0, 1), 30); break;
            case 4: Check.due("pay", x.pay(0, 1, 3), 30); break;
            case 5: Check.rows(x, 0, 1);
                Check.due("strike", x.strike(), 7);
                break;
            default: x.pour(0, 1);
                x.part(0, 4);
                break;
        }
    }

    private static void everyAct() {
        for (int which = 0; which < 7; which++) {
            LakeMarket x = Check.market(TEXT);
            String before = look(x);
            act(x, which);
            Check.no("act " + which + " changes something", look(x).equals(before));
            Check.due("acts", x.has(9), which == 6 ? 2 : 1);
            Check.yes("undo", x.undo());
            if (which == 6) {
                Check.due("the lake is gone again", x.lake(1, 0), 0);
                Check.yes("undo", x.undo());
            }
            Check.yes("all is as it was ahead of act " + which, look(x).equals(before));
            Check.due("acts", x.has(9), 0);
            Check.no("none can be", x.undo());
            Check.due("refused", x.status(4), 1);
        }
    }

    /** A new object each time: looking takes many calls, and an object has 512 of them. */
    private static LakeMarket acted(int acts, int undone) {
        LakeMarket x = Check.market(TEXT);
        for (int i = 0; i < acts; i++) {
            Check.yes("move", x.move(0, 1 - i % 2) || x.nights(1) > 0);
            Check.due("acts", x.has(9), Math.min(20, i + 1));
        }
        for (int i = 1; i <= undone; i++) {
            Check.yes("undo", x.undo());
            Check.due("acts", x.has(9), Math.min(20, acts) - i);
        }
        return x;
    }

    private static void twentyActs() {
        for (int undone = 1; undone <= 20; undone++) {
            Check.yes("as ahead of the last " + undone, look(acted(25, undone)).equals(look(acted(25 - undone, 0))));
        }
        LakeMarket x = acted(25, 20);
        Check.no("the last 20 alone", x.undo());
        Check.due("refused", x.status(4), 1);
    }

    private static void actsBehindUndone() {
        LakeMarket x = Check.market(TEXT);
        x.nights(1);
        String one = look(x);
        x.nights(1);
        Check.yes("undo", x.undo());
        x.move(0, 1);
        String other = look(x);
        x.nights(2);
        Check.yes("undo", x.undo());
        Check.yes("other", look(x).equals(other));
        Check.yes("undo", x.undo());
        Check.yes("one", look(x).equals(one));
        Check.due("what is refused is no act", x.nights(0), -1);
        Check.no("what is refused is no act", x.move(0, 0));
        Check.due("acts", x.has(9), 1);
    }

    private static void theSeedStays() {
        LakeMarket x = Check.market(TEXT);
        x.chance(2);
        int seed = x.has(10);
        Check.yes("undo", x.undo());
        Check.due("the seed stays", x.has(10), seed);
        Check.due("night", x.has(3), 0);
        x.nights(1);
        x.seed(99);
        Check.yes("undo", x.undo());
        Check.due("the seed stays", x.has(10), 99);
    }

    private static void kept() {
        LakeMarket x = Check.market(TEXT);
        Check.due("nothing kept", x.kept(0, 0), -1);
        x.nights(3);
        Check.due("pay", x.pay(0, 1, 1), 17);
        x.nights(1);
        Check.due("pay", x.pay(1, 0, 5), 16 + 1);
        int[][] want = {{3, 0, 1, 17}, {4, 1, 0, 17}};
        for (int k = 0; k < 2; k++) {
            for (int what = 0; what < 4; what++) {
                Check.due("kept(" + k + ", " + what + ")", x.kept(k, what), want[k][what]);
            }
            Check.due("no such what", x.kept(k, 4), -1);
            Check.due("no such what", x.kept(k, -1), -1);
        }
        Check.due("none such", x.kept(2, 0), -1);
        Check.due("none such", x.kept(-1, 0), -1);
        Check.due("count", x.has(8), 2);
    }

    private static void fortyKept() {
        LakeMarket x = Check.market(TEXT + "worth 3*night+1;");
        int night = 0;
        for (int i = 0; i < 45; i++) {
            Check.due("pay", x.pay(i % 2, 1 - i % 2, 1), 3 * night + 1);
            if (i % 3 == 0) {
                x.nights(1);
                night++;
            }
            Check.due("told", x.has(8), Math.min(40, i + 1));
        }
        for (int k = 0; k < 40; k++) {
            int i = k + 5;
            int then = (i + 2) / 3;
            Check.due("night of " + k, x.kept(k, 0), then);
            Check.due("who paid " + k, x.kept(k, 1), i % 2);
            Check.due("whom " + k, x.kept(k, 2), 1 - i % 2);
            Check.due("worth of " + k, x.kept(k, 3), 3 * then + 1);
        }
        Check.due("no 41st", x.kept(40, 0), -1);
    }

    private static LakeMarket paid(int payments, int undone) {
        LakeMarket x = Check.market("hollow h holds 99 at 0;owner a;owner b;lake l has 9 in h of a;lake m has 8 in h of b;");
        for (int i = 0; i < payments; i++) {
            int lake = i % 3 % 2;
            int owner = x.lake(lake, 2);
            x.pay(owner, 1 - owner, 1 << lake);
        }
        for (int i = 0; i < undone; i++) {
            Check.yes("undo", x.undo());
        }
        return x;
    }

    private static void keptComesBack() {
        for (int undone = 1; undone <= 20; undone++) {
            LakeMarket x = paid(70, undone);
            Check.due("forty are told still", x.has(8), 40);
            Check.yes("payments as ahead of the last " + undone, look(x).equals(look(paid(70 - undone, 0))));
        }
        Check.no("no more", paid(70, 20).undo());
    }
}
