import java.util.Arrays;
import java.util.List;

/** Boundary cases, sentence by sentence: a text's statements, names, numbers and blanks (Terms, I). */
public final class BoundsTextTest {
    private static final String HEAD = "hollow h holds 50 at 0;owner a;owner b;";

    public static void main(String[] args) {
        statements();
        barrelsOfAHollow();
        placeOfAHollow();
        hollows();
        owners();
        barrelsOfALake();
        roomForALake();
        lakes();
        unlikeOwners();
        debts();
        theLastDebtCounts();
        oneEach();
        drought();
        carts();
        lettersOfNames();
        namesOfAllSorts();
        namesToldAhead();
        digitsOfNumbers();
        blanks();
        sideBySide();
        signsThatBegin();
        ownWords();
        Check.finish();
    }

    private static void good(String text) {
        Check.fault(text, 0, -1);
    }

    /** A number between these words: those from least to most alone can be. */
    private static void number(String ahead, String behind, int least, int most) {
        int[] inside = {least, least + 1, most - 1, most};
        for (int n : inside) {
            good(ahead + n + behind);
        }
        int[] outside = {least - 1, most + 1, 9999};
        for (int n : outside) {
            if (n >= 0) {
                Check.fault(ahead + n + behind, 4, ahead.length());
            }
        }
        Check.fault(ahead + "-1" + behind, 1, ahead.length());
        Check.fault(ahead + "10000" + behind, 1, ahead.length() + 4);
    }

    private static void statements() {
        Check.sentence("A LOWLAND is a text: { STATEMENT ; } (80 at most)");
        good("");
        good("carts 5;");
        good("carts 5;".repeat(79));
        good("carts 5;".repeat(80));
        good("carts 5;".repeat(80) + " \n");
        Check.fault("carts 5;".repeat(81), 6, 640);
        Check.fault("carts 5;".repeat(80) + " carts 5;", 6, 641);
        Check.fault("carts 5;".repeat(79) + "carts 5", 1, 639);
        Check.fault("carts 5;".repeat(79) + "carts 0;", 4, 638);
        Check.fault(";", 1, 0);
        Check.fault("carts 5;;", 1, 8);
    }

    private static void barrelsOfAHollow() {
        Check.sentence("hollow NAME holds N at N (1 .. 999 BARRELS, 0 .. 99, its PLACE; 8 HOLLOWS);");
        number("hollow h holds ", " at 0;", 1, 999);
        Check.due("1", Check.market("hollow h holds 1 at 0;").hollow(0, 0), 1);
        Check.due("999", Check.market("hollow h holds 999 at 0;").hollow(0, 0), 999);
        Check.due("room", Check.market("hollow h holds 999 at 0;").hollow(0, 2), 999);
    }

    private static void placeOfAHollow() {
        Check.sentence("hollow NAME holds N at N (1 .. 999 BARRELS, 0 .. 99, its PLACE; 8 HOLLOWS);");
        number("hollow h holds 9 at ", ";", 0, 99);
        Check.due("0", Check.market("hollow h holds 9 at 0;").hollow(0, 1), 0);
        Check.due("99", Check.market("hollow h holds 9 at 99;").hollow(0, 1), 99);
    }

    private static String hollows(int count) {
        StringBuilder text = new StringBuilder();
        for (int i = 0; i < count; i++) {
            text.append("hollow h").append((char) ('a' + i)).append(" holds 9 at 1;");
        }
        return text.toString();
    }

    private static void hollows() {
        Check.sentence("hollow NAME holds N at N (1 .. 999 BARRELS, 0 .. 99, its PLACE; 8 HOLLOWS);");
        Check.due("none", Check.market("").has(0), 0);
        for (int count = 7; count <= 8; count++) {
            Check.due(count + " hollows", Check.market(hollows(count)).has(0), count);
        }
        Check.fault(hollows(9), 6, hollows(8).length());
        Check.fault(hollows(8) + "hollow ha", 6, hollows(8).length());
        Check.fault(hollows(7) + "hollow ha", 2, hollows(7).length() + 7);
    }

    private static String owners(int count) {
        StringBuilder text = new StringBuilder();
        for (int i = 0; i < count; i++) {
            text.append("owner o").append((char) ('a' + i)).append(";");
        }
        return text.toString();
    }

    private static void owners() {
        Check.sentence("owner NAME (6 OWNERS);");
        Check.due("none", Check.market("").has(1), 0);
        // of is an own word, so the sixth one bears another name
        String five = owners(5);
        Check.due("5 owners", Check.market(five).has(1), 5);
        Check.due("6 owners", Check.market(five + "owner og;").has(1), 6);
        Check.fault(five + "owner og;owner oh;", 6, five.length() + 9);
        Check.fault(five + "owner og; owner og;", 6, five.length() + 10);
        Check.fault(five + "owner oa;", 2, five.length() + 6);
    }

    private static void barrelsOfALake() {
        Check.sentence("lake NAME has N in NAME of NAME (1 .. 999 BARRELS; a HOLLOW in which there is room for it; an OWNER; 8 LAKES);");
        number("hollow h holds 999 at 0;owner a;lake l has ", " in h of a;", 1, 999);
        LakeMarket least = Check.market("hollow h holds 999 at 0;owner a;lake l has 1 in h of a;");
        Check.due("1", least.lake(0, 0), 1);
        Check.due("not gone", least.has(4), 1);
        LakeMarket most = Check.market("hollow h holds 999 at 0;owner a;lake l has 999 in h of a;");
        Check.due("999", most.lake(0, 0), 999);
        Check.due("no room is left", most.hollow(0, 2), 0);
    }

    private static void roomForALake() {
        Check.sentence("a HOLLOW in which there is room for it;");
        good(HEAD + "lake l has 49 in h of a;");
        good(HEAD + "lake l has 50 in h of a;");
        Check.fault(HEAD + "lake l has 51 in h of a;", 3, HEAD.length() + 17);
        String one = HEAD + "lake k has 20 in h of b;";
        good(one + "lake l has 29 in h of a;");
        good(one + "lake l has 30 in h of a;");
        Check.fault(one + "lake l has 31 in h of a;", 3, one.length() + 17);
        String full = one + "lake l has 30 in h of a;";
        Check.fault(full + "lake m has 1 in h of a;", 3, full.length() + 16);
        String other = "hollow i holds 1 at 0;" + full;
        good(other + "lake m has 1 in i of a;");
        Check.fault(other + "lake m has 2 in i of a;", 3, other.length() + 16);
        Check.fault("hollow h holds 1 at 0;owner a;lake l has 2 in h of a;", 3, 46);
        good("hollow h holds 1 at 0;owner a;lake l has 1 in h of a;");
    }

    private static String lakes(int count) {
        StringBuilder text = new StringBuilder(HEAD);
        for (int i = 0; i < count; i++) {
            text.append("lake l").append((char) ('a' + i)).append(" has 1 in h of a;");
        }
        return text.toString();
    }

    private static void lakes() {
        Check.sentence("an OWNER; 8 LAKES);");
        Check.due("none", Check.market("").has(2), 0);
        for (int count = 7; count <= 8; count++) {
            Check.due(count + " lakes", Check.market(lakes(count)).has(2), count);
        }
        Check.fault(lakes(9), 6, lakes(8).length());
        Check.fault(lakes(8) + "lake la", 6, lakes(8).length());
        Check.fault(lakes(7) + "lake la", 2, lakes(7).length() + 5);
    }

    private static void unlikeOwners() {
        Check.sentence("owes NAME NAME N (two unlike OWNERS, 0 .. 999; the last one of these two counts; 0 without);");
        good(HEAD + "owes a b 5;owes b a 5;");
        Check.fault(HEAD + "owes a a 5;", 3, HEAD.length() + 7);
        Check.fault(HEAD + "owes b b 0;", 3, HEAD.length() + 7);
    }

    private static void debts() {
        Check.sentence("owes NAME NAME N (two unlike OWNERS, 0 .. 999; the last one of these two counts; 0 without);");
        number(HEAD + "owes a b ", ";", 0, 999);
        Check.due("0", Check.market(HEAD + "owes a b 0;").owes(0, 1), 0);
        Check.due("999", Check.market(HEAD + "owes a b 999;").owes(0, 1), 999);
        Check.due("0 without", Check.market(HEAD).owes(0, 1), 0);
    }

    private static void theLastDebtCounts() {
        Check.sentence("the last one of these two counts; 0 without);");
        LakeMarket x = Check.market(HEAD + "owes a b 1;owes a b 999;owes b a 7;owes a b 0;owes a b 3;");
        Check.due("a owes b", x.owes(0, 1), 3);
        Check.due("b owes a", x.owes(1, 0), 7);
        Check.due("0 as the last one", Check.market(HEAD + "owes a b 999;owes a b 0;").owes(0, 1), 0);
        Check.due("all", x.has(7), 10);
    }

    private static void oneEach() {
        Check.sentence("leaks SUM, worth SUM, may TEST (one each);");
        String[] rules = {"leaks 0;", "worth 0;", "may not all;"};
        good("leaks 0;worth 0;may not all;");
        for (String rule : rules) {
            good(rule);
            Check.fault(rule + rule, 6, rule.length());
            Check.fault(rule + "carts 1; " + rule, 6, rule.length() + 9);
            Check.fault(rule + rule.substring(0, rule.indexOf(' ')), 6, rule.length());
        }
        String lake = "hollow h holds 9 at 0;hollow i holds 9 at 0;owner a;lake l has 9 in h of a;";
        LakeMarket none = Check.market(lake);
        Check.due("leaks nothing without", none.lake(0, 4), 0);
        Check.due("worth its barrels without", none.lake(0, 3), 9);
        Check.yes("may always without", none.move(0, 1));
        LakeMarket all = Check.market(lake + "leaks 2;worth 0;may not all;");
        Check.due("leaks", all.lake(0, 4), 2);
        Check.due("worth", all.lake(0, 3), 0);
        Check.no("may", all.move(0, 1));
    }

    private static void drought() {
        Check.sentence("drought N (0 .. 100; the last one counts, 0 without)");
        number("drought ", ";", 0, 100);
        Check.due("without", Check.market("").chance(100), 0);
        Check.due("0", Check.market("drought 0;").chance(100), 0);
        Check.due("100", Check.market("drought 100;").chance(100), 100);
        Check.due("the last one: 0", Check.market("drought 100;drought 0;").chance(100), 0);
        Check.due("the last one: 100", Check.market("drought 0;drought 100;").chance(100), 100);
        // a seed whose next draw of 100 is 0, or 99
        for (int seed = 0, found = 0; seed < 5000 && found < 2; seed++) {
            int draw = (int) ((1103515245L * seed + 12345) % (1L << 31) / 64 % 100);
            if (draw == 0 || draw == 99) {
                found++;
                Check.due("1 with a draw of " + draw, drawn("drought 1;", seed), draw == 0 ? 1 : 0);
                Check.due("0 with a draw of " + draw, drawn("drought 0;", seed), 0);
                Check.due("without with a draw of " + draw, drawn("", seed), 0);
                Check.due("99 with a draw of " + draw, drawn("drought 99;", seed), draw == 0 ? 1 : 0);
                Check.due("100 with a draw of " + draw, drawn("drought 100;", seed), 1);
            }
        }
    }

    private static int drawn(String text, int seed) {
        LakeMarket x = Check.market(text);
        x.seed(seed);
        return x.chance(1);
    }

    private static boolean carted(int barrels, String carts) {
        return Check.market("hollow h holds 999 at 0;hollow i holds 999 at 0;owner a;lake l has " + barrels + " in h of a;" + carts)
                .move(0, 1);
    }

    private static void carts() {
        Check.sentence("carts N (1 .. 999 BARRELS a night; the last one counts, 999 without).");
        number("carts ", ";", 1, 999);
        Check.yes("999 without", carted(999, ""));
        Check.yes("1 by 1", carted(1, "carts 1;"));
        Check.no("2 by 1", carted(2, "carts 1;"));
        Check.yes("998 by 998", carted(998, "carts 998;"));
        Check.no("999 by 998", carted(999, "carts 998;"));
        Check.yes("999 by 999", carted(999, "carts 999;"));
        Check.no("the last one: 4", carted(5, "carts 999;carts 4;"));
        Check.yes("the last one: 5", carted(5, "carts 4;carts 5;"));
    }

    private static void lettersOfNames() {
        Check.sentence("NAMES: 1 to 6 letters, unlike ones (of all sorts), told ahead of where they are asked.");
        String[] names = {"q", "qr", "qrstu", "qrstuv"};
        for (String name : names) {
            good("hollow " + name + " holds 9 at 0;owner a;lake l has 9 in " + name + " of a;");
            good("owner " + name + ";owner b;owes " + name + " b 5;owes b " + name + " 5;");
            good(HEAD + "lake " + name + " has 9 in h of a;");
        }
        String[] ahead = {"hollow ", "owner ", "lake ", HEAD + "lake ", HEAD + "lake l has 5 in ", HEAD + "lake l has 5 in h of ",
            HEAD + "owes ", HEAD + "owes a "};
        for (String words : ahead) {
            Check.fault(words + "qrstuvw", 1, words.length() + 6);
            Check.fault(words + "qrstuvwxyz;", 1, words.length() + 6);
            Check.fault(words + ";", 1, words.length());
            Check.fault(words, 1, words.length());
        }
        Check.fault("owner abcdef;owner abcdef;", 2, 19);
        good("owner abcdef;owner abcdeg;owner bbcdef;owner abcde;owner fedcba;");
    }

    private static void namesOfAllSorts() {
        Check.sentence("unlike ones (of all sorts)");
        String head = HEAD + "lake l has 1 in h of a;";
        String[] there = {"h", "a", "l"};
        for (String name : there) {
            Check.fault(head + "hollow " + name + " holds 9 at 0;", 2, head.length() + 7);
            Check.fault(head + "owner " + name + ";", 2, head.length() + 6);
            Check.fault(head + "lake " + name + " has 1 in h of a;", 2, head.length() + 5);
            good(head + "hollow " + name + name + " holds 9 at 0;owner x" + name + ";lake " + name + "x has 1 in h of a;");
        }
    }

    private static void namesToldAhead() {
        Check.sentence("told ahead of where they are asked.");
        good("hollow h holds 9 at 0;owner a;lake l has 1 in h of a;");
        Check.fault("owner a;lake l has 1 in h of a;hollow h holds 9 at 0;", 3, 24);
        Check.fault("hollow h holds 9 at 0;lake l has 1 in h of a;owner a;", 3, 43);
        good("owner a;owner b;owes a b 5;");
        Check.fault("owner a;owes a b 5;owner b;", 3, 15);
        Check.fault("owner a;owes b a 5;owner b;", 3, 13);
        // another sort's name is none of what is asked
        Check.fault("owner a;hollow h holds 9 at 0;lake l has 1 in a of a;", 3, 46);
        Check.fault("owner a;hollow h holds 9 at 0;lake l has 1 in l of a;", 3, 46);
        Check.fault("owner a;hollow h holds 9 at 0;lake l has 1 in h of h;", 3, 51);
        Check.fault("owner a;hollow h holds 9 at 0;lake l has 1 in h of l;", 3, 51);
        Check.fault(HEAD + "lake l has 1 in h of a;owes l a 5;", 3, HEAD.length() + 28);
        Check.fault(HEAD + "lake l has 1 in h of a;owes a l 5;", 3, HEAD.length() + 30);
    }

    private static void digitsOfNumbers() {
        Check.sentence("NUMBERS: 1 to 4 digits.");
        String[] fives = {"5", "05", "005", "0005"};
        for (String n : fives) {
            Check.due(n, Check.market("hollow h holds " + n + " at " + n + ";").hollow(0, 0), 5);
            good("carts " + n + ";drought " + n + ";leaks " + n + ";");
            good("owner a;owner b;owes a b " + n + ";");
        }
        Check.fault("carts 00005;", 1, 10);
        Check.fault("carts 000005;", 1, 10);
        Check.fault("drought 00005;", 1, 12);
        Check.fault("hollow h holds 00005 at 1;", 1, 19);
        Check.fault("hollow h holds 5 at 00005;", 1, 24);
        Check.fault(HEAD + "lake l has 00005 in h of a;", 1, HEAD.length() + 15);
        Check.fault(HEAD + "owes a b 00005;", 1, HEAD.length() + 13);
        good("leaks 9999;");
        Check.fault("leaks 10000;", 1, 10);
        Check.fault("carts ;", 1, 6);
    }

    private static boolean isLetter(int octet) {
        return octet >= 'a' && octet <= 'z';
    }

    private static boolean isDigit(int octet) {
        return octet >= '0' && octet <= '9';
    }

    private static void blanks() {
        Check.sentence("Blanks (10, 32) are where one likes");
        for (int octet = 0; octet < 256; octet++) {
            String text = "owner" + (char) octet + "a;";
            if (octet == 10 || octet == 32) {
                good(text);
                good(text.replace("a;", "a" + (char) octet + ";" + (char) octet));
                good((char) octet + text);
            } else {
                // a letter makes it one word of seven
                Check.fault(text, 1, isLetter(octet) ? 6 : 5);
            }
        }
        good("");
        good(" ".repeat(1600));
        good("\n \n owner \n\n a \n ; \n");
        good("leaks ( 1 + has ) * min ( 2 , 3 ) ;");
        good("leaks(1+has)*min(2,3);");
        good("may[all]and not[1<2]or(1)=1;");
    }

    private static void sideBySide() {
        Check.sentence("(words and numbers side by side need one)");
        good("carts 5;");
        good("carts\n5;");
        Check.fault("carts5;", 1, 5);
        good("hollow h holds 5 at 1;");
        Check.fault("hollow h holds5 at 1;", 1, 14);
        Check.fault("hollow h holds 5at 1;", 1, 16);
        Check.fault("hollow h holds 5 at1;", 1, 19);
        good("may 1=1 and all;");
        Check.fault("may 1=1and all;", 1, 7);
        Check.fault("may not1=1;", 1, 7);
        good("may not 1=1;");
        Check.fault("ownera;", 1, 0);
        Check.fault("owner a1;", 1, 7);
        Check.fault("owner a 1;", 1, 8);
        // a sign needs none
        good("may not(1)=1;");
        good("may 1<2;carts 5;");
    }

    private static void signsThatBegin() {
        Check.sentence("1 the first byte with which no LOWLAND goes on");
        for (int octet = 0; octet < 256; octet++) {
            boolean blank = octet == 10 || octet == 32;
            String name = "owner " + (char) octet + ";";
            Check.fault(name, isLetter(octet) ? 0 : 1, isLetter(octet) ? -1 : blank ? 7 : 6);
            String number = "drought " + (char) octet + ";";
            Check.fault(number, isDigit(octet) ? 0 : 1, isDigit(octet) ? -1 : blank ? 9 : 8);
            String longer = "owner a" + (char) octet + ";";
            // at is an own word
            boolean own = octet == 't';
            boolean word = isLetter(octet) && !own;
            // behind a ; the next one is the fault
            int place = own ? 6 : octet == ';' ? 8 : 7;
            Check.fault(longer, word || blank ? 0 : 1, word || blank ? -1 : place);
            String statement = "carts 5;" + (char) octet;
            Check.fault(statement, blank ? 0 : 1, blank ? -1 : 8);
        }
    }

    private static void ownWords() {
        Check.sentence("OWN WORDS, which no NAME is: hollow, holds, at, owner, lake, has, in, of, owes, leaks, worth, may, carts, night, "
                + "beside, steps, free, if, or, and, not, all, min, max, and drought (seven letters).");
        List<String> own = Arrays.asList("hollow", "holds", "at", "owner", "lake", "has", "in", "of", "owes", "leaks", "worth", "may",
                "carts", "night", "beside", "steps", "free", "if", "or", "and", "not", "all", "min", "max", "drought");
        for (String word : own) {
            Check.fault("owner " + word + ";", 1, 6);
            Check.fault("hollow " + word + " holds 9 at 0;", 1, 7);
            Check.fault(HEAD + "lake " + word + " has 9 in h of a;", 1, HEAD.length() + 5);
            Check.fault(HEAD + "lake l has 9 in " + word + " of a;", 1, HEAD.length() + 16);
            Check.fault(HEAD + "lake l has 9 in h of " + word + ";", 1, HEAD.length() + 21);
            Check.fault(HEAD + "owes " + word + " a 5;", 1, HEAD.length() + 5);
            Check.fault(HEAD + "owes a " + word + " 5;", 1, HEAD.length() + 7);
            String shorter = word.substring(0, word.length() - 1);
            good("owner " + shorter + ";");
            String longer = word + "z";
            if (longer.length() <= 6) {
                good("owner " + longer + ";");
            } else {
                Check.fault("owner " + longer + ";", 1, 12);
            }
            Check.fault("owner " + word.toUpperCase() + ";", 1, 6);
        }
    }
}
