/** Promises 4 and 5: the faults of a text, each with its place. */
public final class FaultTest {
    private static final String HEAD = "hollow h holds 50 at 0;owner a;owner b;";
    private static final int AT = HEAD.length();

    public static void main(String[] args) {
        goodTexts();
        wordsThatCannotStand();
        textsThatEndTooSoon();
        wordsAndNumbersThatAreTooLong();
        tooLongWithoutABlank();
        ownWordsAreNoNames();
        blanks();
        otherBytes();
        namesThatAreThere();
        namesThatAreNotAsked();
        numbersThatCannotBe();
        tooDeep();
        tooMany();
        theFirstAlongTheText();
        figuresOfRules();
        Check.finish();
    }

    private static void good(String text) {
        Check.fault(text, 0, -1);
    }

    private static void behindHead(String text, int kind, int place) {
        Check.fault(HEAD + text, kind, AT + place);
    }

    private static void goodTexts() {
        good("");
        good(HEAD);
        good(HEAD + "lake l has 50 in h of a;");
        good("leaks has;worth 0;may all;drought 0;carts 1;");
        good("leaks min(has,drought)*max(night,beside)/2%3+(1-2);");
        good("may not [steps<1 or free>2 and beside=3] and all or if(all,1,2)=has;");
        good("\n owner\na\n;\n");
        good("owner at ;".replace("at", "ata"));
        good("owner holdsx;owner hol;owner droug;owner z;");
        good("carts 0001;drought 0100;hollow h holds 0999 at 0099;");
        good("may 1=1and 1=1;".replace("1and", "1 and"));
    }

    private static void wordsThatCannotStand() {
        Check.fault("own a;", 1, 0);
        Check.fault("a;", 1, 0);
        Check.fault(";", 1, 0);
        Check.fault("owner a;;", 1, 8);
        Check.fault("5;", 1, 0);
        Check.fault("has 5;", 1, 0);
        Check.fault("hollow h hold 5 at 1;", 1, 9);
        Check.fault("hollow h holds five at 1;", 1, 15);
        Check.fault("hollow h holds at 1;", 1, 15);
        Check.fault("hollow h holds 5 in 1;", 1, 17);
        Check.fault("hollow h holds 5 at h;", 1, 20);
        Check.fault("hollow h holds 5 at 1 owner a;", 1, 22);
        Check.fault("owner 5;", 1, 6);
        Check.fault("owner a b;", 1, 8);
        behindHead("lake l holds 5 in h of a;", 1, 7);
        behindHead("lake l has 5 at h of a;", 1, 13);
        behindHead("lake l has 5 in h in a;", 1, 18);
        behindHead("lake l has 5 in 5 of a;", 1, 16);
        behindHead("owes a b;", 1, 8);
        behindHead("owes a 5;", 1, 7);
        Check.fault("leaks;", 1, 5);
        Check.fault("leaks +1;", 1, 6);
        Check.fault("leaks -1;", 1, 6);
        Check.fault("leaks 1+;", 1, 8);
        Check.fault("leaks 1 2;", 1, 8);
        Check.fault("leaks has has;", 1, 10);
        Check.fault("leaks 1<2;", 1, 7);
        Check.fault("leaks all;", 1, 6);
        Check.fault("leaks [1];", 1, 6);
        Check.fault("leaks (1;", 1, 8);
        Check.fault("leaks ();", 1, 7);
        Check.fault("leaks min(1);", 1, 11);
        Check.fault("leaks min 1,2);", 1, 10);
        Check.fault("leaks min(1,2,3);", 1, 13);
        Check.fault("leaks if(1,2,3);", 1, 10);
        Check.fault("leaks if(all,2);", 1, 14);
        Check.fault("leaks if(all 2,3);", 1, 13);
        Check.fault("leaks x;", 1, 6);
        Check.fault("may 1;", 1, 5);
        Check.fault("may 1<2<3;", 1, 7);
        Check.fault("may (1<2);", 1, 6);
        Check.fault("may [1];", 1, 6);
        Check.fault("may [all;", 1, 8);
        Check.fault("may all all;", 1, 8);
        Check.fault("may not;", 1, 7);
        Check.fault("may all or;", 1, 10);
        Check.fault("may all and or all;", 1, 12);
        Check.fault("may 1==2;", 1, 6);
        Check.fault("may 1<=2;", 1, 6);
        Check.fault("drought has;", 1, 8);
        Check.fault("carts;", 1, 5);
    }

    private static void textsThatEndTooSoon() {
        String[] texts = {"hollow", "hollow ", "hollow h", "hollow h holds", "hollow h holds 5", "hollow h holds 5 at",
                "hollow h holds 5 at 5", "owner", "owner a", "owner a;owner b \n", "leaks", "leaks 1", "leaks 1+", "leaks (",
                "leaks (1", "leaks min", "leaks min(", "leaks min(1", "leaks min(1,", "leaks min(1,2", "leaks if(all",
                "leaks if(all,1", "may", "may not", "may [", "may 1", "may 1<", "may 1<2", "may all", "may all or",
                "carts", "carts 5", "drought", "drought 5", HEAD + "owes a", HEAD + "owes a b", HEAD + "owes a b 1",
                HEAD + "lake", HEAD + "lake l", HEAD + "lake l has", HEAD + "lake l has 5", HEAD + "lake l has 5 in",
                HEAD + "lake l has 5 in h", HEAD + "lake l has 5 in h of", HEAD + "lake l has 5 in h of a"};
        for (String text : texts) {
            Check.fault(text, 1, text.length());
            Check.fault(text + " ", 1, text.length() + 1);
        }
    }

    private static void wordsAndNumbersThatAreTooLong() {
        Check.fault("owner abcdefg;", 1, 12);
        Check.fault("owner abcdefghijkl;", 1, 12);
        Check.fault("hollows h holds 5 at 1;", 1, 6);
        Check.fault("ownerann;", 1, 6);
        Check.fault("droughts 5;", 1, 6);
        Check.fault("owner droughts;", 1, 12);
        Check.fault("owner a abcdefg;", 1, 14);
        Check.fault("carts abcdefg;", 1, 12);
        Check.fault("leaks abcdefg;", 1, 12);
        Check.fault("may abcdefg;", 1, 10);
        Check.fault("abcdefg", 1, 6);
        Check.fault("carts 12345;", 1, 10);
        Check.fault("carts 00001;", 1, 10);
        Check.fault("carts 123456789012345678901234567890;", 1, 10);
        Check.fault("owner 12345;", 1, 10);
        Check.fault("12345", 1, 4);
        Check.fault("leaks 99999;", 1, 10);
        Check.fault("owner a 99999;", 1, 12);
        Check.fault("carts 1000;", 4, 6);
        good("leaks 9999;");
    }

    /** The missing blank is the first fault along the text, whatever the second one is and wherever it stands. */
    private static void tooLongWithoutABlank() {
        Check.fault("drought 12abcdefg;", 1, 10);
        Check.fault("drought 12abcdefghijklmnopqrstuvwxyz;", 1, 10);
        Check.fault("drought 12abcdef;", 1, 10);
        Check.fault("drought 12droughts;", 1, 10);
        Check.fault("drought 12drought;", 1, 10);
        Check.fault("drought 12 abcdefg;", 1, 17);
        Check.fault("drought 12\nabcdefg;", 1, 17);
        Check.fault("drought 12;abcdefg;", 1, 17);
        Check.fault("owner ab12345;", 1, 8);
        Check.fault("owner ab1234;", 1, 8);
        Check.fault("owner ab 12345;", 1, 13);
        Check.fault("owner ab;12345;", 1, 13);
        Check.fault("drought12345;", 1, 7);
        Check.fault("carts12345;", 1, 5);
        Check.fault("owner12345;", 1, 5);
        Check.fault("hollow h12345 holds 5 at 1;", 1, 8);
        Check.fault("hollow h holds12345 at 1;", 1, 14);
        Check.fault("hollow h holds 5abcdefg 1;", 1, 16);
        Check.fault("hollow h holds 5 at12345;", 1, 19);
        Check.fault("hollow h holds 5 at 1abcdefg;", 1, 21);
        behindHead("lake l has12345 in h of a;", 1, 10);
        behindHead("lake l has 5abcdefg h of a;", 1, 12);
        behindHead("lake l has 5 in12345 of a;", 1, 15);
        behindHead("lake l has 5 in h of a12345;", 1, 22);
        behindHead("owes a b12345;", 1, 8);
        behindHead("owes a b 5abcdefg;", 1, 10);
        Check.fault("leaks12345;", 1, 5);
        Check.fault("leaks has12345;", 1, 9);
        Check.fault("leaks 5abcdefg;", 1, 7);
        Check.fault("leaks min12345;", 1, 9);
        Check.fault("leaks (5abcdefg);", 1, 8);
        Check.fault("leaks (abcdefg);", 1, 13);
        Check.fault("leaks (12345);", 1, 11);
        Check.fault("leaks 5+12345;", 1, 12);
        Check.fault("may12345<5;", 1, 3);
        Check.fault("may not12345<5;", 1, 7);
        Check.fault("may all12345;", 1, 7);
        Check.fault("may 1<2abcdefg all;", 1, 7);
        Check.fault("may all or12345<5;", 1, 10);
        // what is wrong with the first one comes ahead of that
        Check.fault("owner abcdefg12345;", 1, 12);
        Check.fault("carts 12345abcdefg;", 1, 10);
        Check.fault("carts 1000abcdefg;", 4, 6);
        Check.fault("owner a;owner a12345;", 2, 14);
        behindHead("owes x12345;", 3, 5);
    }

    private static void ownWordsAreNoNames() {
        for (String word : Oracle.OWN) {
            Check.fault("hollow " + word + " holds 5 at 1;", 1, 7);
            Check.fault("owner " + word + ";", 1, 6);
            behindHead("lake " + word + " has 5 in h of a;", 1, 5);
            behindHead("lake l has 5 in " + word + " of a;", 1, 16);
            behindHead("lake l has 5 in h of " + word + ";", 1, 21);
            behindHead("owes " + word + " b 5;", 1, 5);
            behindHead("owes a " + word + " 5;", 1, 7);
        }
    }

    private static void blanks() {
        good("leaks(has)*(1);");
        good("may[all]and[all]or not[all];");
        good("may not(1)<2;");
        good("leaks min ( 1 , 2 ) ;");
        Check.fault("carts5;", 1, 5);
        Check.fault("carts 5x;", 1, 7);
        Check.fault("hollow h holds 5at 1;", 1, 16);
        Check.fault("hollow h holds5 at 1;", 1, 14);
        Check.fault("owner a5;", 1, 7);
        Check.fault("leaks1;", 1, 5);
        Check.fault("may 1<2and all;", 1, 7);
        Check.fault("may 1<2or all;", 1, 7);
        Check.fault("may not1<2;", 1, 7);
        Check.fault("carts 1 0;", 1, 8);
        Check.fault("own er a;", 1, 0);
        Check.fault("owner\ta;", 1, 5);
        Check.fault("owner a\r;", 1, 7);
    }

    private static void otherBytes() {
        Check.fault("Owner a;", 1, 0);
        Check.fault("owner A;", 1, 6);
        Check.fault("owner aB;", 1, 7);
        Check.fault("owner abcdefG;", 1, 12);
        Check.fault("owner a_b;", 1, 7);
        Check.fault("owner " + (char) 225 + ";", 1, 6);
        Check.fault("owner a" + (char) 0 + ";", 1, 7);
        Check.fault("owner a" + (char) 255 + ";", 1, 7);
        Check.fault("leaks 1.5;", 1, 7);
    }

    private static void namesThatAreThere() {
        Check.fault("owner a;owner a;", 2, 14);
        Check.fault("owner a;hollow a holds 5 at 1;", 2, 15);
        behindHead("hollow h holds 5 at 1;", 2, 7);
        behindHead("owner h;", 2, 6);
        behindHead("lake h has 5 in h of a;", 2, 5);
        behindHead("lake a has 5 in h of a;", 2, 5);
        behindHead("lake l has 5 in h of a;lake l has 5 in h of a;", 2, 28);
        behindHead("lake l has 5 in h of a;owner l;", 2, 29);
        behindHead("lake l has 5 in h of a;hollow l holds 5 at 1;", 2, 30);
        good("owner abcdef;owner abcde;owner bcdef;owner b;");
    }

    private static void namesThatAreNotAsked() {
        behindHead("lake l has 5 in i of a;", 3, 16);
        behindHead("lake l has 5 in a of a;", 3, 16);
        behindHead("lake l has 5 in l of a;", 3, 16);
        behindHead("lake l has 5 in h of h;", 3, 21);
        behindHead("lake l has 5 in h of c;", 3, 21);
        behindHead("lake l has 5 in h of l;", 3, 21);
        behindHead("lake l has 51 in h of a;", 3, 17);
        behindHead("lake l has 30 in h of a;lake m has 21 in h of a;", 3, 41);
        good(HEAD + "lake l has 30 in h of a;lake m has 20 in h of a;");
        behindHead("owes a c 5;", 3, 7);
        behindHead("owes c a 5;", 3, 5);
        behindHead("owes a a 5;", 3, 7);
        behindHead("owes h a 5;", 3, 5);
        behindHead("owes a h 5;", 3, 7);
        Check.fault("lake l has 5 in h of a;hollow h holds 50 at 0;owner a;", 3, 16);
    }

    private static void numbersThatCannotBe() {
        Check.fault("hollow h holds 0 at 1;", 4, 15);
        good("hollow h holds 1 at 0;");
        good("hollow h holds 999 at 99;");
        Check.fault("hollow h holds 1000 at 1;", 4, 15);
        Check.fault("hollow h holds 1 at 100;", 4, 20);
        behindHead("lake l has 0 in h of a;", 4, 11);
        behindHead("lake l has 1000 in h of a;", 4, 11);
        behindHead("owes a b 1000;", 4, 9);
        good(HEAD + "owes a b 999;owes b a 0;");
        Check.fault("drought 101;", 4, 8);
        good("drought 100;drought 0;");
        Check.fault("carts 0;", 4, 6);
        Check.fault("carts 1000;", 4, 6);
        good("carts 1;carts 999;");
        good("leaks 0+9999;");
    }

    private static void tooDeep() {
        good("leaks (((((((1)))))));");
        Check.fault("leaks ((((((((1))))))));", 5, 13);
        good("may not not not not not not not all;");
        Check.fault("may not not not not not not not not all;", 5, 32);
        good("may [[[[[[[all]]]]]]];");
        Check.fault("may [[[[[[[[all]]]]]]]];", 5, 11);
        good("may [not [not [not [all]]]];");
        Check.fault("may [not [not [not [not all]]]];", 5, 20);
        Check.fault("may [not [not [not [(1)<2]]]];", 5, 20);
        Check.fault("leaks min(1,max(1,if(all,(((((1))))),2)));", 5, 29);
        good("leaks min(1,max(1,if(all,((((1)))),2)));");
        Check.fault("leaks ((((((( min(1,2) )))))));", 5, 17);
        good("leaks (((((((1))))))) + (((((((1)))))));");
        good("may not not not not not not not all and not not not not not not not all;");
        good("may not not not not not not [all] or not not not not not not [all];");
        Check.fault("may not not not not not not not [all];", 5, 32);
        good("may not 1<2 and ((((((1))))))<(((((((1)))))));");
        Check.fault("leaks (((((((1)(;", 1, 15);
        deepInEachPlace("min(", ",1)");
        deepInEachPlace("min(1,", ")");
        deepInEachPlace("max(", ",1)");
        deepInEachPlace("max(1,", ")");
        deepInEachPlace("if(", "=1,2,3)");
        deepInEachPlace("if(all,", ",1)");
        deepInEachPlace("if(all,1,", ")");
        deepInEachPlace("if([not 1=", "],1,2)");
    }

    /** So many more are open in a sum's place that seven are, and then one more. */
    private static void deepInEachPlace(String opening, String closing) {
        int open = opening.contains("[") ? 3 : 1;
        String more = "(((((((".substring(open);
        String less = ")))))))".substring(open);
        good("leaks " + opening + more + "1" + less + closing + ";");
        String deep = "leaks " + opening + more + "(";
        Check.fault(deep + "1)" + less + closing + ";", 5, deep.length() - 1);
    }

    private static void tooMany() {
        Check.fault("leaks 1;leaks 1;", 6, 8);
        Check.fault("worth 1; worth 1;", 6, 9);
        Check.fault("may all;may all;", 6, 8);
        StringBuilder hollows = new StringBuilder();
        for (char c = 'a'; c < 'i'; c++) {
            hollows.append("hollow ").append(c).append(" holds 9 at 1;");
        }
        good(hollows.toString());
        Check.fault(hollows + "hollow z holds 9 at 1;", 6, hollows.length());
        Check.fault(hollows + "\nhollow", 6, hollows.length() + 1);
        StringBuilder owners = new StringBuilder();
        for (char c = 'k'; c < 'q'; c++) {
            owners.append("owner ").append(c).append(";");
        }
        good(owners.toString());
        Check.fault(owners + "owner z;", 6, owners.length());
        StringBuilder lakes = new StringBuilder("hollow h holds 9 at 1;owner o;");
        for (char c = 'p'; c < 'x'; c++) {
            lakes.append("lake ").append(c).append(" has 1 in h of o;");
        }
        good(lakes.toString());
        Check.fault(lakes + "lake z has 1 in h of o;", 6, lakes.length());
        StringBuilder statements = new StringBuilder();
        for (int i = 0; i < 80; i++) {
            statements.append("drought 1;");
        }
        good(statements + " \n");
        String[] anything = {"drought 1;", "leaks 1;", "x", ";", "abcdefgh", "12345", "owner drought;"};
        for (String more : anything) {
            Check.fault(statements + " " + more, 6, statements.length() + 1);
        }
    }

    private static void theFirstAlongTheText() {
        Check.fault("hollow h holds 0 12345", 4, 15);
        Check.fault("hollow h holds 0at 5", 4, 15);
        Check.fault("owner a;owner a abcdefgh", 2, 14);
        behindHead("owes a a 1000;", 3, 7);
        behindHead("lake l has 0 in x of y;", 4, 11);
        Check.fault("leaks ((((((((abcdefgh", 5, 13);
        Check.fault("worth 1;worth abcdefgh", 6, 8);
        Check.fault("carts 0;owner drought;", 4, 6);
    }

    private static void figuresOfRules() {
        good("leaks drought+has+night+beside;");
        Check.fault("worth drought;", 1, 6);
        Check.fault("may drought=1;", 1, 4);
        good("may steps+free+has+night+beside=0;");
        Check.fault("leaks steps;", 1, 6);
        Check.fault("leaks free;", 1, 6);
        Check.fault("worth steps;", 1, 6);
        Check.fault("worth free;", 1, 6);
        Check.fault("worth if(steps=1,1,1);", 1, 9);
        good("leaks if(drought=1,1,1);");
    }
}
