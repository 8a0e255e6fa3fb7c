/** Promises 1 to 3: a new object, feed, end. */
public final class TapeTest {
    public static void main(String[] args) {
        aNewObject();
        feedCountsAndKeepsOrder();
        feedStopsAtItsLimit();
        endCutsTheTape();
        Check.finish();
    }

    private static void aNewObject() {
        LakeMarket x = new LakeMarket();
        for (int what = 0; what < 10; what++) {
            Check.due("new has(" + what + ")", x.has(what), 0);
        }
        Check.due("new seed", x.has(10), 1);
        Check.due("new fault", x.fault(0), 0);
        Check.due("new fault's place", x.fault(1), -1);
        Check.due("new octet", x.octet(0), -1);
        Check.due("new robbed", x.robbed(1), -1);
        Check.due("new letter", x.letter(0, 0, 0), -1);
        Check.due("new hollow", x.hollow(0, 0), -1);
        Check.due("new lake", x.lake(0, 0), -1);
        Check.due("new owner", x.owner(0, 0), -1);
        for (int what = 0; what < 6; what++) {
            Check.due("new status(" + what + ")", x.status(what), 0);
        }
        Check.no("new move", x.move(0, 0));
        Check.due("new pay", x.pay(0, 1, 1), -1);
    }

    private static void feedCountsAndKeepsOrder() {
        LakeMarket x = new LakeMarket();
        // "owner abcdef;owner g" , then ";" : the order of the bytes tells itself in the names
        Check.due("feed", x.feed(0x6f776e65, 0x72206162, 0x63646566, 0x3b6f776e, 0x65722067), 20);
        Check.due("feed", x.feed(0x3b202020, 0x20202020, 0x20202020, 0x20202020, 0x20202020), 40);
        Check.due("lowland", x.lowland(), 2);
        for (int k = 0; k < 6; k++) {
            Check.due("letter " + k, x.letter(1, 0, k), k + 1);
        }
        Check.due("the tape went", x.feed(0, 0, 0, 0, 0), 20);
        // a byte above 127 is itself, not below 0
        Check.yes("end", x.end(0));
        Check.due("feed", x.feed(0xff000000, 0, 0, 0, 0), 20);
        Check.due("lowland", x.lowland(), -1);
        Check.due("place", x.fault(1), 0);
    }

    private static void feedStopsAtItsLimit() {
        LakeMarket x = new LakeMarket();
        for (int n = 20; n <= 1600; n += 20) {
            Check.due("feed", x.feed(1, 2, 3, 4, 5), n);
        }
        Check.due("feed too much", x.feed(1, 2, 3, 4, 5), -1);
        Check.due("refused", x.status(0), 1);
        Check.yes("end", x.end(1581));
        Check.due("feed too much", x.feed(1, 2, 3, 4, 5), -1);
        Check.due("refused", x.status(0), 2);
        Check.yes("end", x.end(1580));
        Check.due("feed", x.feed(1, 2, 3, 4, 5), 1600);
    }

    private static void endCutsTheTape() {
        LakeMarket x = new LakeMarket();
        Check.yes("end(0)", x.end(0));
        Check.no("end(1)", x.end(1));
        Check.no("end(-1)", x.end(-1));
        Check.no("end(least)", x.end(Integer.MIN_VALUE));
        Check.due("refused", x.status(0), 3);
        x.feed(0x20202020, 0x20202020, 0x20202020, 0x20202020, 0x20202021);
        Check.no("end(21)", x.end(21));
        Check.yes("end(20)", x.end(20));
        Check.yes("end(19)", x.end(19));
        Check.no("end(20) behind end(19)", x.end(20));
        Check.due("lowland of blanks", x.lowland(), 0);
        x.feed(0x20202020, 0x20202020, 0x20202020, 0x20202020, 0x20202021);
        Check.yes("end(3)", x.end(3));
        Check.due("feed behind end", x.feed(0, 0, 0, 0, 0), 23);
        Check.due("refused", x.status(0), 5);
    }
}
