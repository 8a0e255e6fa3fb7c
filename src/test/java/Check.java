/** What the tests share: objects made from texts, and answers held against what is due. */
final class Check {
    private static int calls = 0;
    private static int wrong = 0;

    private Check() {
    }

    static void due(String what, long got, long want) {
        calls++;
        if (got != want) {
            wrong++;
            System.out.println(what + " answered " + got + ", due is " + want);
        }
    }

    static void yes(String what, boolean got) {
        due(what, got ? 1 : 0, 1);
    }

    static void no(String what, boolean got) {
        due(what, got ? 1 : 0, 0);
    }

    /** To be called last in every main method. */
    static void finish() {
        System.out.println(calls + " answers, " + wrong + " of them not as due");
        if (wrong != 0 || calls == 0) {
            System.exit(1);
        }
    }

    static int[] bytes(String text) {
        int[] row = new int[text.length()];
        for (int k = 0; k < row.length; k++) {
            row[k] = text.charAt(k) & 255;
        }
        return row;
    }

    /** Puts bytes behind those on the tape, which must be as many as said. */
    static void tape(LakeMarket x, int onTape, int... row) {
        for (int at = 0; at < row.length; at += 20) {
            int[] five = new int[5];
            for (int k = 0; k < 20; k++) {
                int octet = at + k < row.length ? row[at + k] : 0;
                five[k / 4] = (five[k / 4] << 8) | octet;
            }
            x.feed(five[0], five[1], five[2], five[3], five[4]);
        }
        yes("end", x.end(onTape + row.length));
    }

    static void rows(LakeMarket x, int... row) {
        tape(x, 0, row);
    }

    static int tell(LakeMarket x, String text) {
        tape(x, 0, bytes(text));
        return x.lowland();
    }

    static LakeMarket market(String text) {
        LakeMarket x = new LakeMarket();
        int told = tell(x, text);
        if (told < 0) {
            due("the text: " + text + " with fault " + x.fault(0) + " at " + x.fault(1), told, 0);
        }
        return x;
    }

    /** The text's fault and place as due; 0 and -1 without. */
    static void fault(String text, int kind, int place) {
        LakeMarket x = new LakeMarket();
        int told = tell(x, text);
        due("fault(0) of: " + text, x.fault(0), kind);
        due("fault(1) of: " + text, x.fault(1), place);
        due("refused: " + text, x.status(1), kind == 0 ? 0 : 1);
        due("lowland() tells a fault: " + text, told == LakeMarket.NONE ? 1 : 0, kind == 0 ? 0 : 1);
    }
}
