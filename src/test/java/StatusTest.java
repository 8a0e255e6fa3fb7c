/** Promise 36: status. */
public final class StatusTest {
    public static void main(String[] args) {
        LakeMarket x = Check.market("hollow h holds 60 at 0;owner a;owner b;lake k has 20 in h of a;");
        int[] due = new int[6];
        same(x, due);
        x.end(-1);
        due[0]++;
        same(x, due);
        for (int i = 0; i < 81; i++) {
            x.feed(0, 0, 0, 0, 0);
        }
        due[0]++;
        same(x, due);
        x.lowland();
        due[1]++;
        same(x, due);
        x.nights(0);
        x.chance(0);
        due[2] += 2;
        same(x, due);
        x.move(0, 0);
        x.pour(0, 0);
        x.part(0, 1);
        x.pay(0, 0, 1);
        x.strike();
        due[3] += 5;
        same(x, due);
        x.undo();
        due[4]++;
        same(x, due);
        x.seed(-1);
        x.moves();
        x.stood();
        x.on();
        due[5] += 4;
        same(x, due);
        askedOnly(x);
        same(x, due);
        Check.tell(x, "owner z;");
        same(x, due);
        Check.due("status(6)", x.status(6), -1);
        Check.due("status(-1)", x.status(-1), -1);
        Check.due("status(most)", x.status(Integer.MAX_VALUE), -1);
        Check.due("status(least)", x.status(Integer.MIN_VALUE), -1);
        Check.finish();
    }

    /** What is asked for what there is not is answered so, but not refused. */
    private static void askedOnly(LakeMarket x) {
        x.fault(9);
        x.has(99);
        x.letter(9, 9, 9);
        x.hollow(9, 9);
        x.lake(9, 9);
        x.owner(9, 9);
        x.owes(9, 9);
        x.later(999, 0);
        x.broke(9);
        x.spend(9, 9);
        x.price(9, 9, 9);
        x.pack(9, 9);
        x.net(9);
        x.settling();
        x.share(9, 9, 9);
        x.robbed(-9);
        x.kept(9, 9);
        x.octet(9999);
    }

    private static void same(LakeMarket x, int[] due) {
        for (int what = 0; what < 6; what++) {
            Check.due("status(" + what + ")", x.status(what), due[what]);
        }
    }
}
