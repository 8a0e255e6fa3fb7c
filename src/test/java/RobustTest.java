import java.util.Random;

/** No call throws or hangs, whatever it is given in whatever state, nor long behind the 512th call. */
public final class RobustTest {
    private static final int[] ODD = {Integer.MIN_VALUE, Integer.MIN_VALUE + 1, -1000000000, -2, -1, 0, 1, 2, 3, 5, 6, 7, 8, 9, 31,
        32, 33, 63, 64, 99, 100, 101, 255, 256, 999, 1000, 1600, 9999, 10000, Integer.MAX_VALUE - 1, Integer.MAX_VALUE};

    public static void main(String[] args) {
        for (int seed = 0; seed < 300; seed++) {
            Random random = new Random(seed);
            LakeMarket x = seed % 3 == 0 ? new LakeMarket() : Check.market(new Texts(random).narrow());
            for (int i = 0; i < 3000; i++) {
                call(x, random, random.nextInt(34));
            }
            Check.yes("still answers", x.has(0) >= 0);
        }
        Check.finish();
    }

    private static int odd(Random random) {
        return random.nextInt(3) == 0 ? random.nextInt(9) - 1 : ODD[random.nextInt(ODD.length)];
    }

    private static void call(LakeMarket x, Random random, int which) {
        int a = odd(random);
        int b = odd(random);
        int c = odd(random);
        if (which < 17) {
            ask(x, which, a, b, c);
        } else if (which < 24) {
            x.feed(random.nextInt() & 0x07030703, 0x00000103, random.nextInt(), a, b);
            if (random.nextInt(4) > 0) {
                x.end(random.nextInt(20));
            }
            byTape(x, random, which);
        } else {
            act(x, which, a, b, c);
        }
    }

    private static void ask(LakeMarket x, int which, int a, int b, int c) {
        switch (which) {
            case 0: x.fault(a); break;
            case 1: x.has(a); break;
            case 2: x.letter(a, b, c); break;
            case 3: x.hollow(a, b); break;
            case 4: x.lake(a, b); break;
            case 5: x.owner(a, b); break;
            case 6: x.owes(a, b); break;
            case 7: x.later(a, b); break;
            case 8: x.broke(a); break;
            case 9: x.spend(a, b); break;
            case 10: x.price(a, b, c); break;
            case 11: x.pack(a, b); break;
            case 12: x.net(a); break;
            case 13: x.settling(); break;
            case 14: x.share(a, b, c); break;
            case 15: x.robbed(a); break;
            default: x.kept(a, b); break;
        }
    }

    private static void byTape(LakeMarket x, Random random, int which) {
        switch (which) {
            case 17: if (random.nextInt(40) == 0) {
                x.lowland();
                x.end(0);
                Check.tell(x, new Texts(random).narrow());
            }
                break;
            case 18: x.moves(); break;
            case 19: x.stood(); break;
            case 20: x.strike(); break;
            case 21: x.on(); break;
            default: break;
        }
    }

    private static void act(LakeMarket x, int which, int a, int b, int c) {
        switch (which) {
            case 24: x.nights(a); break;
            case 25: x.chance(a); break;
            case 26: x.move(a, b); break;
            case 27: x.pour(a, b); break;
            case 28: x.part(a, b); break;
            case 29: x.pay(a, b, c); break;
            case 30: x.undo(); break;
            case 31: x.seed(a); break;
            case 32: x.image(); break;
            default: x.octet(a);
                x.status(b);
                x.end(c);
                break;
        }
    }
}
