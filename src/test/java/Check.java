import java.io.IOException;
import java.nio.file.Files;
import java.nio.file.Path;
import java.util.Arrays;

/** What the tests share: objects made from texts, and answers held against what is due. */
final class Check {
    private static int calls = 0;
    private static int wrong = 0;
    private static String sentence = "";

    private Check() {
    }

    static void due(String what, long got, long want) {
        calls++;
        if (got != want) {
            wrong++;
            System.out.println(sentence + what + " answered " + got + ", due is " + want);
        }
    }

    static void yes(String what, boolean got) {
        due(what, got ? 1 : 0, 1);
    }

    static void no(String what, boolean got) {
        due(what, got ? 1 : 0, 0);
    }

    /** To be called last in every main method. */
    static void finish() {
        System.out.println(calls + " answers, " + wrong + " of them not as due");
        if (wrong != 0 || calls == 0) {
            System.exit(1);
        }
    }

    /**
     * The document's words that the answers from here on are due by; told with each one that is wrong.
     * With -Ddoc=../shared/DOC.md it is looked up whether the document says so.
     */
    static void sentence(String words) {
        sentence = "[" + words + "] ";
        String doc = System.getProperty("doc");
        if (doc != null) {
            yes("the document says so", plain(read(doc)).contains(plain(words)));
        }
    }

    private static String plain(String text) {
        return text.replace("`", "").replaceAll("\\s+", " ");
    }

    private static String read(String file) {
        try {
            return Files.readString(Path.of(file));
        } catch (IOException e) {
            return "";
        }
    }

    static int[] bytes(String text) {
        int[] row = new int[text.length()];
        for (int k = 0; k < row.length; k++) {
            row[k] = text.charAt(k) & 255;
        }
        return row;
    }

    /** Puts bytes behind those on the tape, which must be as many as said; what end() cuts off is of no use to anyone. */
    static void tape(LakeMarket x, int onTape, int... row) {
        for (int at = 0; at < row.length; at += 20) {
            int[] five = new int[5];
            for (int k = 0; k < 20; k++) {
                int octet = at + k < row.length ? row[at + k] : 255;
                five[k / 4] = (five[k / 4] << 8) | octet;
            }
            x.feed(five[0], five[1], five[2], five[3], five[4]);
        }
        yes("end", x.end(onTape + row.length));
    }

    static void rows(LakeMarket x, int... row) {
        tape(x, 0, row);
    }

    static int tell(LakeMarket x, String text) {
        tape(x, 0, bytes(text));
        return x.lowland();
    }

    static LakeMarket market(String text) {
        LakeMarket x = new LakeMarket();
        int told = tell(x, text);
        if (told < 0) {
            due("the text: " + text + " with fault " + x.fault(0) + " at " + x.fault(1), told, 0);
        }
        return x;
    }

    /** The text's fault and place as due; 0 and -1 without. */
    static void fault(String text, int kind, int place) {
        LakeMarket x = new LakeMarket();
        int told = tell(x, text);
        due("fault(0) of: " + text, x.fault(0), kind);
        due("fault(1) of: " + text, x.fault(1), place);
        due("refused: " + text, x.status(1), kind == 0 ? 0 : 1);
        due("lowland() tells a fault: " + text, told == LakeMarket.NONE ? 1 : 0, kind == 0 ? 0 : 1);
    }

    /** The bytes with the one behind them that makes an image of them. */
    static int[] checked(int... row) {
        int[] all = Arrays.copyOf(row, row.length + 1);
        int c = 149;
        for (int octet : row) {
            c = (5 * c + octet) % 251;
        }
        all[row.length] = c;
        return all;
    }

    /** The bytes of a new image, without the last one. */
    static int[] picture(LakeMarket x) {
        int[] row = new int[x.image() - 1];
        for (int k = 0; k < row.length; k++) {
            row[k] = x.octet(k);
        }
        return row;
    }

    static boolean on(LakeMarket x, int... row) {
        rows(x, row);
        return x.on();
    }

    /** Two bytes put into an image at a place: whether it is one still; all is as it tells then. */
    static boolean onWith(LakeMarket x, int place, int pair) {
        int[] row = picture(x);
        row[place] = pair / 256;
        row[place + 1] = pair % 256;
        return on(x, checked(row));
    }

    static LakeMarket at(int night, String text) {
        LakeMarket x = market(text);
        yes("at night " + night, onWith(x, 0, night));
        return x;
    }
}
