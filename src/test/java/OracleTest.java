import java.util.Random;

/** All promises at once: runs of calls by chance, each answer held against the slow and plain Oracle. */
public final class OracleTest {
    private final Random random;
    private final LakeMarket x = new LakeMarket();
    private final Oracle o = new Oracle();
    private final String run;
    private int searches = 0;

    private OracleTest(long seed) {
        random = new Random(seed);
        run = "run " + seed + ": ";
    }

    public static void main(String[] args) {
        int runs = args.length > 0 ? Integer.parseInt(args[0]) : 1500;
        int from = args.length > 1 ? Integer.parseInt(args[1]) : 0;
        for (int seed = from; seed < from + runs; seed++) {
            new OracleTest(seed).go();
        }
        for (int seed = from; seed < from + 10 * runs; seed++) {
            spoilt(seed);
        }
        for (int seed = from; seed < from + runs; seed++) {
            narrow(seed);
        }
        Check.finish();
    }

    private static void spoilt(long seed) {
        OracleTest t = new OracleTest(seed);
        Texts texts = new Texts(t.random);
        String text = texts.good();
        t.tell(text);
        t.tell(texts.spoilt(text));
        for (int what = 0; what <= 10; what++) {
            t.due("has(" + what + ")", t.x.has(what), t.o.has(what));
        }
    }

    /** Narrow hollows, in which the searches have most to look for. */
    private static void narrow(long seed) {
        OracleTest t = new OracleTest(seed);
        t.tell(new Texts(t.random).narrow());
        for (int i = 0; i < 6; i++) {
            t.searchMoves();
        }
        t.due("settling", t.x.settling(), t.o.settling());
        for (int owner = 0; owner < 2; owner++) {
            t.due("pack", t.x.pack(owner, 0), t.o.pack(owner, 0));
            t.due("pack", t.x.pack(owner, 1), t.o.pack(owner, 1));
            for (int lake = -1; lake < 8; lake++) {
                t.due("share 2", t.x.share(owner, 2, lake), t.o.share(owner, 2, lake));
                t.due("share 3", t.x.share(owner, 3, lake), t.o.share(owner, 3, lake));
            }
            for (int price = 0; price < 40; price++) {
                t.due("price " + price, t.x.price(owner, price, 0), t.o.price(owner, price, 0));
            }
        }
    }

    private int below(int n) {
        return random.nextInt(n);
    }

    private int roughly(int n) {
        int roll = below(40);
        return roll == 0 ? -1 : roll == 1 ? n + below(3) : roll == 2 ? random.nextInt() : below(Math.max(1, n));
    }

    private void due(String call, long got, long want) {
        Check.due(run + call, got, want);
    }

    private void due(String call, boolean got, boolean want) {
        due(call, got ? 1 : 0, want ? 1 : 0);
    }

    private void tape(int... row) {
        for (int at = 0; at < row.length; at += 20) {
            int[] five = new int[5];
            for (int k = 0; k < 20; k++) {
                five[k / 4] = five[k / 4] << 8 | (at + k < row.length ? row[at + k] : 32);
            }
            due("feed", x.feed(five[0], five[1], five[2], five[3], five[4]), o.feed(five));
        }
        due("end", x.end(row.length), o.end(row.length));
    }

    private void tell(String text) {
        due("end", x.end(0), o.end(0));
        tape(Check.bytes(text));
        String call = "lowland() of " + text.replace("\n", "\\n");
        due(call, x.lowland(), o.lowland());
        due(call + ", fault", x.fault(0), o.fault(0));
        due(call + ", place", x.fault(1), o.fault(1));
    }

    private void go() {
        tell(new Texts(random).good());
        for (int i = 0; i < 180; i++) {
            switch (below(3)) {
                case 0: ask(); break;
                case 1: askMore(); break;
                default: act(); break;
            }
        }
        askAll();
    }

    private int lakes() {
        return o.land.lakes.size();
    }

    private int owners() {
        return o.land.owners.size();
    }

    private int hollows() {
        return o.land.hollows.size();
    }

    private void ask() {
        int a = roughly(8);
        int b = roughly(6);
        int c = roughly(6);
        switch (below(9)) {
            case 0: due("has " + a, x.has(a + 3), o.has(a + 3)); break;
            case 1: due("letter", x.letter(b % 4, a, c), o.letter(b % 4, a, c)); break;
            case 2: due("hollow", x.hollow(a, b), o.hollow(a, b)); break;
            case 3: due("lake", x.lake(a, b), o.lake(a, b)); break;
            case 4: due("owner", x.owner(a, b), o.owner(a, b)); break;
            case 5: due("owes", x.owes(b, c), o.owes(b, c)); break;
            case 6: due("kept", x.kept(a, b), o.kept(a, b)); break;
            case 7: due("status", x.status(b), o.status(b)); break;
            default: due("fault", x.fault(b), o.fault(b)); break;
        }
    }

    private void askMore() {
        int lake = roughly(lakes());
        int owner = roughly(owners());
        int what = below(20) == 0 ? below(5) - 1 : below(2);
        switch (below(13)) {
            case 0: {
                int n = roughly(101);
                int of = below(3) == 0 ? -1 : lake;
                due("later(" + n + ", " + of + ")", x.later(n, of), o.later(n, of));
                break;
            }
            case 1: due("broke", x.broke(owner), o.broke(owner)); break;
            case 2: due("spend", x.spend(lake, what), o.spend(lake, what)); break;
            case 3: case 4: {
                int price = below(3) == 0 ? roughly(10000) : below(200);
                due("price", x.price(owner, price, what), o.price(owner, price, what));
                break;
            }
            case 5: case 6: searchMoves(); break;
            case 7: due("pack", x.pack(owner, what), o.pack(owner, what)); break;
            case 8: due("net", x.net(owner), o.net(owner)); break;
            case 9: due("settling", x.settling(), o.settling()); break;
            case 10: {
                int heirs = below(15) == 0 ? below(6) : 2 + below(2);
                int of = below(2) == 0 ? -1 : lake;
                due("share", x.share(owner, heirs, of), o.share(owner, heirs, of));
                break;
            }
            case 11: tellStood(); break;
            default: {
                int barrels = below(2) == 0 ? 1 + below(20) : roughly(1000);
                due("robbed", x.robbed(barrels), o.robbed(barrels));
                break;
            }
        }
    }

    private void searchMoves() {
        // the oracle's search is slow where much can move: not too many of these
        if (searches >= 6) {
            return;
        }
        searches++;
        int[] row = new int[2 * (1 + below(Math.max(1, below(3) == 0 ? lakes() : 2))) + (below(25) == 0 ? 1 : 0)];
        for (int i = 0; i < row.length; i++) {
            row[i] = roughly(i % 2 == 0 ? lakes() : hollows()) & 255;
            if (i % 2 == 0 && i > 0 && below(10) > 0) {
                row[i] = (row[i - 2] + 1) % Math.max(1, lakes());
            }
        }
        tape(row);
        due("moves", x.moves(), o.moves());
    }

    private void tellStood() {
        int[] row = new int[3 * (1 + below(below(4) == 0 ? 9 : 3)) + (below(25) == 0 ? 1 : 0)];
        for (int i = 0; i + 2 < row.length; i += 3) {
            row[i] = roughly(lakes()) & 255;
            int left = Math.max(0, o.later(1, row[i]));
            left = below(3) == 0 ? Math.max(0, left - 1 - below(5)) : below(20) == 0 ? 998 + below(4) : left;
            row[i + 1] = left >> 8;
            row[i + 2] = left & 255;
        }
        tape(row);
        due("stood", x.stood(), o.stood());
    }

    private void act() {
        int lake = roughly(lakes());
        int owner = roughly(owners());
        switch (below(14)) {
            case 0: {
                int n = below(12) == 0 ? roughly(101) : 1 + below(2);
                due("nights " + n, x.nights(n), o.nights(n));
                break;
            }
            case 1: {
                int n = below(12) == 0 ? roughly(101) : 1 + below(2);
                due("chance " + n, x.chance(n), o.chance(n));
                break;
            }
            case 2: case 3: case 4: {
                int to = roughly(hollows());
                due("move", x.move(lake, to), o.move(lake, to));
                break;
            }
            case 5: {
                int second = roughly(lakes());
                due("pour", x.pour(lake, second), o.pour(lake, second));
                break;
            }
            case 6: {
                int barrels = roughly(12);
                due("part", x.part(lake, barrels), o.part(lake, barrels));
                break;
            }
            case 7: case 8: case 9: pay(owner); break;
            case 10: strike(); break;
            case 11: for (int n = below(4); n > 0; n--) {
                due("undo", x.undo(), o.undo());
            }
                break;
            case 12: picture(); break;
            default: {
                int seed = random.nextInt();
                due("seed", x.seed(seed), o.seed(seed));
                break;
            }
        }
    }

    private void pay(int owner) {
        int other = roughly(owners());
        int his = Math.max(0, o.owner(owner, 0));
        int bits = below(10) == 0 ? random.nextInt() : below(3) == 0 ? his : his & random.nextInt();
        due("pay", x.pay(owner, other, bits), o.pay(owner, other, bits));
    }

    private void strike() {
        int[] ring = new int[below(8)];
        for (int k = 0; k < ring.length; k++) {
            ring[k] = k == 0 || below(8) == 0 ? roughly(owners()) & 255 : next(ring, k);
        }
        tape(ring);
        due("strike", x.strike(), o.strike());
    }

    /** An owner whom the one ahead owes something, if there is one. */
    private int next(int[] ring, int k) {
        for (int tries = 0; tries < 9; tries++) {
            int other = below(Math.max(1, owners()));
            if (o.owes(ring[k - 1], other) > 0) {
                return other;
            }
        }
        return below(Math.max(1, owners()));
    }

    private void picture() {
        int size = x.image();
        due("image", size, o.image());
        int[] row = new int[size];
        for (int k = 0; k < size; k++) {
            row[k] = x.octet(k);
            due("octet " + k, row[k], o.octet(k));
        }
        due("octet behind", x.octet(size), o.octet(size));
        if (below(3) > 0) {
            return;
        }
        if (below(2) == 0) {
            spoil(row);
        }
        tape(below(15) == 0 ? java.util.Arrays.copyOf(row, Math.max(0, size - 2 + below(4))) : row);
        due("on", x.on(), o.on());
        askAll();
    }

    private void spoil(int[] row) {
        int at = below(row.length);
        row[at] = below(3) == 0 ? below(256) : Math.max(0, Math.min(255, row[at] - 1 + below(3)));
        if (below(4) > 0) {
            int c = 149;
            for (int k = 0; k + 1 < row.length; k++) {
                c = (5 * c + row[k]) % 251;
            }
            row[row.length - 1] = c;
        }
    }

    private void askAll() {
        for (int what = -1; what <= 11; what++) {
            due("has(" + what + ")", x.has(what), o.has(what));
        }
        for (int i = 0; i < 8; i++) {
            for (int what = 0; what < 5; what++) {
                due("lake(" + i + ", " + what + ")", x.lake(i, what), o.lake(i, what));
                due("owner(" + i + ", " + what + ")", x.owner(i, what), o.owner(i, what));
                due("hollow(" + i + ", " + what + ")", x.hollow(i, what), o.hollow(i, what));
            }
        }
        for (int k = 0; k < 41; k++) {
            for (int what = 0; what < 4; what++) {
                due("kept(" + k + ", " + what + ")", x.kept(k, what), o.kept(k, what));
            }
        }
        for (int what = 0; what < 6; what++) {
            due("status(" + what + ")", x.status(what), o.status(what));
        }
    }
}
