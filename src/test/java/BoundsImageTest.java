import java.util.Arrays;

/** Boundary cases, sentence by sentence: promises 33 to 36, images and refusals. */
public final class BoundsImageTest {
    private static final String TEXT = "hollow h holds 999 at 0;hollow i holds 300 at 9;owner a;owner b;"
            + "lake k has 255 in h of a;lake l has 256 in h of b;lake m has 1 in i of a;owes a b 255;owes b a 256;";

    /** Where the image of that text has its night, its lakes (four bytes each) and its debts (two bytes each). */
    private static final int NIGHT = 0;
    private static final int LAKES = 2;
    private static final int DEBTS = 2 + 4 * 3;

    public static void main(String[] args) {
        imageSizes();
        higherFirst();
        goneIs255();
        lastByteGoesRound();
        octetNoneSuch();
        latestImage();
        onSize();
        onLastByte();
        onNight();
        onBarrels();
        onNoBarrels();
        onHollows();
        onOwners();
        onHollowsThatAreFull();
        onDebts();
        onNobodyOwesHimself();
        onOfThisLowland();
        onForgets();
        onRefusedStays();
        statusForOthers();
        statusOfEachCall();
        statusOfWhatIsAsked();
        Check.finish();
    }

    private static void imageSizes() {
        Check.sentence("AN IMAGE is written: how many bytes.");
        Check.due("of nothing", new LakeMarket().image(), 3);
        Check.due("of one owner", Check.market("owner a;").image(), 5);
        Check.due("of two owners", Check.market("owner a;owner b;").image(), 11);
        Check.due("of a hollow", Check.market("hollow h holds 9 at 0;").image(), 3);
        Check.due("of a lake", Check.market("hollow h holds 9 at 0;owner a;lake l has 9 in h of a;").image(), 9);
        StringBuilder text = new StringBuilder("hollow h holds 99 at 0;owner a;owner b;owner c;owner d;owner e;owner f;");
        for (char c = 'a'; c <= 'h'; c++) {
            text.append("lake l").append(c).append(" has 9 in h of f;");
        }
        LakeMarket most = Check.market(text.toString());
        Check.due("of all there may be", most.image(), 2 + 32 + 72 + 1);
        Check.yes("its last byte", most.octet(106) >= 0);
        Check.due("behind it", most.octet(107), -1);
        Check.due("the last owner", most.octet(33), 5);
    }

    private static void higherFirst() {
        Check.sentence("AN IMAGE: NIGHT (two bytes, the higher first); for each LAKE its BARRELS (two bytes), its HOLLOW, its OWNER");
        LakeMarket x = Check.market(TEXT);
        int[] want = Check.checked(0, 0, 0, 255, 0, 0, 1, 0, 0, 1, 0, 1, 1, 0, 0, 0, 0, 255, 1, 0, 0, 0);
        Check.due("image", x.image(), want.length);
        for (int k = 0; k < want.length; k++) {
            Check.due("octet(" + k + ")", x.octet(k), want[k]);
        }
        int[] nights = {1, 255, 256, 257, 9998, 9999};
        for (int night : nights) {
            LakeMarket y = Check.at(night, TEXT);
            y.image();
            Check.due("night " + night, y.octet(0), night / 256);
            Check.due("night " + night, y.octet(1), night % 256);
        }
    }

    private static void goneIs255() {
        Check.sentence("(255, 255 when it is GONE)");
        LakeMarket x = Check.market("hollow h holds 9 at 0;owner a;lake l has 2 in h of a;leaks 1;");
        int[][] want = {{0, 2, 0, 0}, {0, 1, 0, 0}, {0, 0, 255, 255}};
        for (int night = 0; night < 3; night++) {
            x.image();
            for (int k = 0; k < 4; k++) {
                Check.due("octet(" + (2 + k) + ") in night " + night, x.octet(2 + k), want[night][k]);
            }
            x.nights(1);
        }
    }

    private static void lastByteGoesRound() {
        Check.sentence("last a byte: all ahead from 149 on, c = (5 c + it) mod 251.");
        boolean[] seen = new boolean[251];
        for (int night = 0; night < 300; night++) {
            // of no lowland: 149, the two bytes of the night, and no more
            int c = (5 * ((5 * 149 + night / 256) % 251) + night % 256) % 251;
            LakeMarket x = new LakeMarket();
            Check.yes("on", Check.on(x, night / 256, night % 256, c));
            Check.due("image", x.image(), 3);
            Check.due("the last byte in night " + night, x.octet(2), c);
            seen[c] = true;
        }
        Check.yes("0 was among them", seen[0]);
        Check.yes("250 was among them", seen[250]);
    }

    private static void octetNoneSuch() {
        Check.sentence("Byte k of the latest image(); NONE when there is none such.");
        LakeMarket x = Check.market(TEXT);
        Check.due("ahead of any", x.octet(0), -1);
        int size = x.image();
        Check.due("-1", x.octet(-1), -1);
        Check.yes("the first", x.octet(0) >= 0);
        Check.yes("the last", x.octet(size - 1) >= 0);
        Check.due("one more", x.octet(size), -1);
        Check.due("most", x.octet(Integer.MAX_VALUE), -1);
        Check.due("least", x.octet(Integer.MIN_VALUE), -1);
    }

    private static void latestImage() {
        Check.sentence("Byte k of the latest image();");
        LakeMarket x = Check.market(TEXT);
        int[] first = Check.picture(x);
        x.nights(7);
        x.pay(0, 1, 1);
        for (int k = 0; k < first.length; k++) {
            Check.due("it stays, octet " + k, x.octet(k), first[k]);
        }
        x.image();
        Check.due("a new one", x.octet(1), 7);
        // a shorter one has no bytes of the longer one behind it
        LakeMarket y = Check.market(TEXT);
        y.image();
        y.lowland();
        Check.due("of nothing", y.image(), 3);
        Check.due("behind it", y.octet(3), -1);
    }

    private static boolean on(int place, int... bytes) {
        LakeMarket x = Check.market(TEXT);
        int[] ahead = Check.picture(x);
        int[] row = ahead.clone();
        System.arraycopy(bytes, 0, row, place, bytes.length);
        boolean answer = Check.on(x, Check.checked(row));
        Check.due("refused", x.status(5), answer ? 0 : 1);
        Check.yes("all is as it tells, or stays", Arrays.equals(Check.picture(x), answer ? row : ahead));
        Check.no("the tape went", x.end(1));
        return answer;
    }

    private static void onSize() {
        Check.sentence("The tape (it goes) is AN IMAGE of this LOWLAND: true, all is as it tells");
        LakeMarket x = Check.market(TEXT);
        int[] good = Check.checked(Check.picture(x));
        int[] plain = Check.picture(x);
        Check.yes("just so long", Check.on(x, good));
        Check.no("empty", Check.on(x));
        Check.no("one byte", Check.on(x, 149));
        Check.no("one fewer", Check.on(x, Arrays.copyOf(good, good.length - 1)));
        Check.no("one more", Check.on(x, Arrays.copyOf(good, good.length + 1)));
        Check.no("one fewer, with a last byte of its own", Check.on(x, Check.checked(Arrays.copyOf(plain, plain.length - 1))));
        Check.no("one more, with a last byte of its own", Check.on(x, Check.checked(Arrays.copyOf(plain, plain.length + 1))));
        Check.no("1600 bytes", Check.on(x, Arrays.copyOf(good, 1600)));
        Check.due("refused", x.status(5), 7);
        LakeMarket none = new LakeMarket();
        Check.no("of nothing: empty", Check.on(none));
        Check.no("of nothing: two bytes", Check.on(none, 0, 0));
        Check.yes("of nothing: three bytes", Check.on(none, 0, 0, 211));
        Check.no("of nothing: four bytes", Check.on(none, 0, 0, 211, 211 * 5 % 251));
    }

    private static void onLastByte() {
        Check.sentence("last a byte: all ahead from 149 on, c = (5 c + it) mod 251.");
        for (int last = 0; last < 256; last++) {
            LakeMarket x = new LakeMarket();
            Check.due("last byte " + last, Check.on(x, 0, 0, last) ? 1 : 0, last == 211 ? 1 : 0);
            Check.due("refused", x.status(5), last == 211 ? 0 : 1);
        }
        // 0 by mod 251, which 251 would be, too
        int night = 0;
        while (Check.checked(0, night)[2] != 0) {
            night++;
        }
        LakeMarket y = new LakeMarket();
        Check.no("251 is not 0", Check.on(y, 0, night, 251));
        Check.yes("0 is", Check.on(y, 0, night, 0));
    }

    private static void onNight() {
        Check.sentence("(NIGHT, debts 9999, BARRELS 999 at most");
        Check.yes("0", on(NIGHT, 0, 0));
        Check.yes("1", on(NIGHT, 0, 1));
        Check.yes("256", on(NIGHT, 1, 0));
        Check.yes("9998", on(NIGHT, 39, 14));
        Check.yes("9999", on(NIGHT, 39, 15));
        Check.no("10000", on(NIGHT, 39, 16));
        Check.no("65535", on(NIGHT, 255, 255));
    }

    private static void onBarrels() {
        Check.sentence("BARRELS 999 at most, 0 just with 255, 255;");
        LakeMarket x = Check.market("hollow h holds 999 at 0;owner a;lake l has 9 in h of a;");
        int[][] rows = {{1, 1}, {2, 1}, {255, 1}, {256, 1}, {998, 1}, {999, 1}, {1000, 0}, {1001, 0}, {65535, 0}, {0, 0}};
        for (int[] row : rows) {
            Check.due(row[0] + " barrels", Check.onWith(x, 2, row[0]) ? 1 : 0, row[1]);
        }
        Check.due("the last that was on", x.lake(0, 0), 999);
    }

    private static void onNoBarrels() {
        Check.sentence("0 just with 255, 255;");
        int[][] rows = {{0, 255, 255, 1}, {0, 255, 254, 0}, {0, 254, 255, 0}, {0, 255, 0, 0}, {0, 0, 255, 0}, {0, 0, 0, 0}, {0, 254, 254, 0},
            {1, 255, 255, 0}, {1, 255, 0, 0}, {1, 0, 255, 0}, {1, 0, 0, 1}, {1, 1, 1, 1}};
        for (int[] row : rows) {
            for (int lake = 0; lake < 3; lake++) {
                Check.due(row[0] + " barrels with " + row[1] + ", " + row[2], on(LAKES + 4 * lake, 0, row[0], row[1], row[2]) ? 1 : 0, row[3]);
            }
        }
        // 256 is not without barrels, though its lower byte is 0
        Check.no("256 with 255, 255", on(LAKES, 1, 0, 255, 255));
        Check.yes("256 with a hollow and an owner", on(LAKES, 1, 0, 0, 0));
    }

    private static void onHollows() {
        Check.sentence("HOLLOWS, OWNERS that there are");
        for (int hollow = 0; hollow < 256; hollow++) {
            Check.due("hollow " + hollow, on(LAKES, 0, 1, hollow, 0) ? 1 : 0, hollow < 2 ? 1 : 0);
        }
    }

    private static void onOwners() {
        Check.sentence("HOLLOWS, OWNERS that there are");
        for (int owner = 0; owner < 256; owner++) {
            Check.due("owner " + owner, on(LAKES, 0, 1, 0, owner) ? 1 : 0, owner < 2 ? 1 : 0);
        }
    }

    private static void onHollowsThatAreFull() {
        Check.sentence("no HOLLOW with more than it holds;");
        // h holds 999 and has 256 beside the first lake; i holds 300 and has 1 beside it
        Check.yes("742 and 256", on(LAKES, 2, 230, 0, 0));
        Check.yes("743 and 256", on(LAKES, 2, 231, 0, 0));
        Check.no("744 and 256", on(LAKES, 2, 232, 0, 0));
        Check.yes("298 and 1", on(LAKES, 1, 42, 1, 0));
        Check.yes("299 and 1", on(LAKES, 1, 43, 1, 0));
        Check.no("300 and 1", on(LAKES, 1, 44, 1, 0));
        // two that change their hollows, which is too much for the second one just at the end
        LakeMarket x = Check.market("hollow h holds 10 at 0;hollow i holds 5 at 0;owner a;lake k has 5 in i of a;lake l has 10 in h of a;");
        Check.no("10 in i", Check.on(x, Check.checked(0, 0, 0, 5, 0, 0, 0, 10, 1, 0, 0, 0)));
        Check.yes("5 in i", Check.on(x, Check.checked(0, 0, 0, 10, 0, 0, 0, 5, 1, 0, 0, 0)));
        Check.no("6 in i", Check.on(x, Check.checked(0, 0, 0, 10, 0, 0, 0, 6, 1, 0, 0, 0)));
    }

    private static void onDebts() {
        Check.sentence("(NIGHT, debts 9999, BARRELS 999 at most");
        for (int k = 1; k <= 2; k++) {
            int at = DEBTS + 2 * k;
            Check.yes("0", on(at, 0, 0));
            Check.yes("256", on(at, 1, 0));
            Check.yes("9998", on(at, 39, 14));
            Check.yes("9999", on(at, 39, 15));
            Check.no("10000", on(at, 39, 16));
            Check.no("65535", on(at, 255, 255));
        }
    }

    private static void onNobodyOwesHimself() {
        Check.sentence("nobody owes himself).");
        for (int k = 0; k <= 3; k += 3) {
            int at = DEBTS + 2 * k;
            Check.yes("0", on(at, 0, 0));
            Check.no("1", on(at, 0, 1));
            Check.no("256", on(at, 1, 0));
            Check.no("65535", on(at, 255, 255));
        }
    }

    private static void onOfThisLowland() {
        Check.sentence("is AN IMAGE of this LOWLAND");
        LakeMarket x = Check.market(TEXT);
        int[] image = Check.checked(Check.picture(x));
        Check.tell(x, TEXT.replace("holds 300", "holds 299"));
        Check.yes("there is room for all", Check.on(x, image));
        Check.tell(x, TEXT.replace("holds 999", "holds 511"));
        Check.yes("there is just room for all", Check.on(x, image));
        Check.tell(x, TEXT.replace("holds 999", "holds 510").replace("has 255", "has 254"));
        Check.no("there is no room for all", Check.on(x, image));
        Check.tell(x, TEXT + "owner c;");
        Check.no("one owner more", Check.on(x, image));
        Check.tell(x, TEXT + "lake n has 1 in h of a;");
        Check.no("one lake more", Check.on(x, image));
        Check.tell(x, TEXT + "hollow j holds 1 at 0;");
        Check.yes("a hollow more is not told in an image", Check.on(x, image));
    }

    private static void onForgets() {
        Check.sentence("true, all is as it tells, nothing is KEPT, no ACT can be undone;");
        LakeMarket x = Check.market(TEXT);
        int[] image = Check.checked(Check.picture(x));
        x.nights(3);
        x.pay(0, 1, 1);
        x.seed(5);
        Check.due("kept", x.has(8), 1);
        Check.due("acts", x.has(9), 2);
        Check.yes("on", Check.on(x, image));
        Check.due("night", x.has(3), 0);
        Check.due("owner", x.lake(0, 2), 0);
        Check.due("nothing is kept", x.has(8), 0);
        Check.due("nothing is kept", x.kept(0, 0), -1);
        Check.due("no act can be undone", x.has(9), 0);
        Check.no("no act can be undone", x.undo());
        Check.due("the seed is not told in it", x.has(10), 5);
    }

    private static void onRefusedStays() {
        Check.sentence("false, refused (5), all staying, if it is none such");
        LakeMarket x = Check.market(TEXT);
        x.nights(3);
        x.pay(0, 1, 1);
        int[] now = Check.picture(x);
        int[] image = now.clone();
        image[0] = 1;
        image[LAKES + 1] = 7;
        image[DEBTS + 3] = 9;
        // the last of all bytes is the one that can't be
        image[image.length - 1] = 1;
        Check.no("on", Check.on(x, Check.checked(image)));
        Check.due("refused", x.status(5), 1);
        Check.yes("all stays", Arrays.equals(Check.picture(x), now));
        Check.due("night", x.has(3), 3);
        Check.due("kept", x.has(8), 1);
        Check.due("acts", x.has(9), 2);
        Check.yes("undo", x.undo());
        Check.yes("undo", x.undo());
        Check.due("night", x.has(3), 0);
    }

    private static void statusForOthers() {
        Check.sentence("5 seed(), moves(), stood(), on(). NONE for others.");
        LakeMarket x = new LakeMarket();
        for (int what = 0; what <= 5; what++) {
            Check.due("status(" + what + ")", x.status(what), 0);
        }
        int[] others = {-1, 6, 7, Integer.MIN_VALUE, Integer.MAX_VALUE};
        for (int what : others) {
            Check.due("status(" + what + ")", x.status(what), -1);
        }
    }

    private static void refuse(LakeMarket x, int which) {
        switch (which) {
            case 0: x.feed(0, 0, 0, 0, 0); break;
            case 1: x.end(-1); break;
            case 2: Check.tape(x, 1600);
                x.lowland();
                break;
            case 3: x.nights(0); break;
            case 4: x.chance(0); break;
            case 5: x.move(0, 0); break;
            case 6: x.pour(0, 0); break;
            case 7: x.part(0, 0); break;
            case 8: x.pay(0, 0, 0); break;
            case 9: x.strike(); break;
            case 10: x.undo(); break;
            case 11: x.seed(-1); break;
            case 12: x.moves(); break;
            case 13: x.stood(); break;
            default: x.on(); break;
        }
    }

    private static void statusOfEachCall() {
        Check.sentence("How many were refused: 0 feed(), end(); 1 lowland(); 2 nights(), chance(); 3 move(), pour(), part(), pay(), strike(); 4 undo(); "
                + "5 seed(), moves(), stood(), on().");
        int[] kinds = {0, 0, 1, 2, 2, 3, 3, 3, 3, 3, 4, 5, 5, 5, 5};
        for (int which = 0; which < kinds.length; which++) {
            LakeMarket x = new LakeMarket();
            for (int times = 1; times <= 2; times++) {
                for (int i = 0; i < 80 && (which == 0 || which == 2) && (times == 1 || which == 2); i++) {
                    x.feed(0, 0, 0, 0, 0);
                }
                refuse(x, which);
                for (int what = 0; what <= 5; what++) {
                    Check.due("status(" + what + ") behind call " + which, x.status(what), what == kinds[which] ? times : 0);
                }
            }
        }
    }

    private static void statusOfWhatIsAsked() {
        Check.sentence("How many were refused");
        LakeMarket x = Check.market(TEXT);
        x.fault(2);
        x.has(11);
        x.letter(3, 0, 0);
        x.hollow(2, 0);
        x.lake(3, 0);
        x.owner(2, 0);
        x.owes(0, 0);
        x.later(101, 0);
        x.broke(2);
        x.spend(3, 0);
        x.price(0, 10000, 0);
        x.pack(2, 0);
        x.net(2);
        x.share(0, 4, 0);
        x.robbed(0);
        x.kept(0, 0);
        x.octet(0);
        x.status(6);
        for (int what = 0; what <= 5; what++) {
            Check.due("what is answered NONE alone is not refused: status(" + what + ")", x.status(what), 0);
        }
    }
}
