/** Boundary cases, sentence by sentence: the six faults and their places (Terms, I, and promise 5). */
public final class BoundsFaultTest {
    private static final String HEAD = "hollow h holds 50 at 0;owner a;owner b;";

    /** Every kind of statement and of part, each word, number and sign apart. */
    private static final String EVERYTHING = "hollow h holds 50 at 0 ; owner a ; owner b ; lake l has 5 in h of a ; owes a b 5 ; "
            + "leaks has + night - beside * drought / 2 % ( 3 ) + min ( 1 , 2 ) + max ( 1 , 2 ) + if ( all , 1 , 2 ) ; "
            + "worth if ( not all and [ 1 < 2 or 2 > 1 ] , has , 1 ) ; may steps = free or not [ all ] and 1 < ( 2 ) ; "
            + "drought 5 ; carts 5 ;";

    public static void main(String[] args) {
        endsTooSoon();
        emptyPlaces();
        wholeAtTheirFirstByte();
        seventhLetter();
        fifthDigit();
        seventhLetterAndFifthDigitAnywhere();
        tooLongSideBySide();
        ownWordForAName();
        figuresOfEachRule();
        nameThatIsThere();
        nameThatIsNoneOfThese();
        numberThatCannotBe();
        eighthBracket();
        eighthSquareBracket();
        eighthNot();
        eighthOfAllKinds();
        notUntilItsFactEnds();
        closedOnesDoNotCount();
        oneTooManyOfAKind();
        the81stStatement();
        theFirstAlongTheText();
        Check.finish();
    }

    private static void good(String text) {
        Check.fault(text, 0, -1);
    }

    private static void behindHead(String text, int kind, int place) {
        Check.fault(HEAD + text, kind, HEAD.length() + place);
    }

    private static void endsTooSoon() {
        Check.sentence("at the text's length, if it ends too soon;");
        String[] words = EVERYTHING.split(" ");
        StringBuilder text = new StringBuilder();
        good("");
        for (String word : words) {
            text.append(word);
            if (word.equals(";")) {
                good(text.toString());
            } else {
                Check.fault(text.toString(), 1, text.length());
                Check.fault(text + "\n", 1, text.length() + 1);
            }
            text.append(' ');
        }
    }

    /** Where something must stand and nothing does, the fault is at what comes next. */
    private static void emptyPlaces() {
        Check.sentence("1 the first byte with which no LOWLAND goes on");
        String[] texts = {"hollow ^holds 5 at 1;", "hollow i ^5 at 1;", "hollow i holds ^at 1;", "hollow i holds 5 ^1;", "hollow i holds 5 at ^;",
            "hollow i holds 5 at 1 ^owner c;", "owner ^;", "owner c ^owner d;", "owes ^;", "drought ^;", "carts ^;", "^;", "leaks ^;",
            "leaks (^);", "leaks 1+^;", "leaks 1-^;", "leaks 1*^;", "leaks 1/^;", "leaks 1%^;", "leaks ^+1;", "leaks (1+^);", "leaks 1^);",
            "leaks (1^;", "leaks 1^(2);", "leaks min^;", "leaks min^1,2);", "leaks min(^,2);", "leaks min(1 ^2);",
            "leaks min(1,^);", "leaks min(1,2^;", "leaks min(1^);", "leaks max(^);", "leaks max(1,2^,3);", "leaks if^;", "leaks if(^,1,2);",
            "leaks if(all^);", "leaks if(all,^,2);", "leaks if(all,1^);", "leaks if(all,1,^);", "leaks if(all,1,2^,3);", "leaks if(1^,2,3);",
            "worth ^;", "may ^;", "may [^];", "may [all^;", "may all^];", "may not ^;", "may not ^or all;", "may all and ^;", "may all or ^;",
            "may ^and all;", "may ^or all;", "may 1^;", "may 1<^;", "may ^<1;", "may ^=1;", "may 1=1^=1;", "may 1^,1;", "may (1^=1);",
            "may [1^];", "may all ^all;", "may all ^not all;", "may all^<1;", "leaks ^not 1;", "leaks ^[1];", "leaks 1;^;"};
        for (String text : texts) {
            int place = text.indexOf('^');
            Check.fault(text.replace("^", ""), 1, place);
            Check.fault((HEAD + text).replace("^", ""), 1, HEAD.length() + place);
        }
        String[] behind = {"lake ^has 5 in h of a;", "lake l ^5 in h of a;", "lake l has ^in h of a;", "lake l has 5 ^h of a;",
            "lake l has 5 in ^of a;", "lake l has 5 in h ^a;", "lake l has 5 in h of ^;", "lake l has 5 in h of a ^owner c;",
            "owes ^5;", "owes a ^5;", "owes a b ^;", "owes a b 5 ^5;"};
        for (String text : behind) {
            behindHead(text.replace("^", ""), 1, text.indexOf('^'));
        }
    }

    private static void wholeAtTheirFirstByte() {
        Check.sentence("(words and numbers whole, at their first byte;");
        Check.fault("hollo h holds 5 at 1;", 1, 0);
        Check.fault("hollow h hold 5 at 1;", 1, 9);
        Check.fault("hollow h holdsx 5 at 1;", 1, 9);
        Check.fault("hollow h holds 5 att 1;", 1, 17);
        Check.fault("hollow h holds 5 at 1 1;", 1, 22);
        Check.fault("owner a hollow;", 1, 8);
        Check.fault("owner a 1234;", 1, 8);
        Check.fault("owner 1234;", 1, 6);
        Check.fault("1234;", 1, 0);
        Check.fault("leaks hass;", 1, 6);
        Check.fault("leaks has+nigh;", 1, 10);
        Check.fault("leaks has 1234;", 1, 10);
        Check.fault("may al;", 1, 4);
        Check.fault("may all an all;", 1, 8);
    }

    private static void seventhLetter() {
        Check.sentence("a 7th letter of what is no OWN WORD, a 5th digit at itself, whatever may stand there;");
        good("owner abcdef;");
        Check.fault("owner abcdefg;", 1, 12);
        Check.fault("owner abcdefgh;", 1, 12);
        // the one own word of seven letters, and its neighbours
        good("drought 5;");
        good("owner drough;");
        Check.fault("droughu 5;", 1, 6);
        Check.fault("droughts 5;", 1, 6);
        Check.fault("owner drought;", 1, 6);
        Check.fault("owner droughs;", 1, 12);
        Check.fault("owner droughts;", 1, 12);
        good("leaks drought;");
        Check.fault("leaks droughts;", 1, 12);
        Check.fault("leaks drought drought;", 1, 14);
        // own words of six letters with one more
        Check.fault("hollows h holds 5 at 1;", 1, 6);
        Check.fault("leaks besides;", 1, 12);
    }

    private static void fifthDigit() {
        Check.sentence("a 5th digit at itself, whatever may stand there;");
        good("leaks 1234;");
        Check.fault("leaks 12345;", 1, 10);
        Check.fault("leaks 123456;", 1, 10);
        Check.fault("leaks 00000;", 1, 10);
        Check.fault("carts 9999;", 4, 6);
        Check.fault("carts 99999;", 1, 10);
        Check.fault("carts 1000;", 4, 6);
        Check.fault("carts 10000;", 1, 10);
        Check.fault("carts 0000;", 4, 6);
        Check.fault("carts 00000;", 1, 10);
    }

    private static void seventhLetterAndFifthDigitAnywhere() {
        Check.sentence("whatever may stand there;");
        String[] words = EVERYTHING.split(" ");
        StringBuilder text = new StringBuilder();
        for (String word : words) {
            Check.fault(text + "abcdefg", 1, text.length() + 6);
            Check.fault(text + "12345", 1, text.length() + 4);
            text.append(word).append(' ');
        }
        Check.fault(text + "abcdefg", 1, text.length() + 6);
        Check.fault(text + "12345", 1, text.length() + 4);
    }

    private static void tooLongSideBySide() {
        Check.sentence("(words and numbers side by side need one)");
        Check.fault("drought 12abcdef;", 1, 10);
        Check.fault("drought 12abcdefg;", 1, 10);
        Check.fault("drought 12 abcdefg;", 1, 17);
        Check.fault("owner ab1234;", 1, 8);
        Check.fault("owner ab12345;", 1, 8);
        Check.fault("owner ab 12345;", 1, 13);
        Check.fault("owner abcdef12345;", 1, 12);
        Check.fault("owner abcdefg12345;", 1, 12);
        Check.fault("leaks 1234abcdefg;", 1, 10);
        Check.fault("leaks 12345abcdefg;", 1, 10);
        Check.fault("leaks drought12345;", 1, 13);
        Check.fault("leaks (12345);", 1, 11);
        Check.fault("leaks (abcdefg);", 1, 13);
    }

    private static void ownWordForAName() {
        Check.sentence("an OWN WORD where a NAME must be)");
        Check.fault("owner owner;", 1, 6);
        Check.fault("owner drought;", 1, 6);
        Check.fault("hollow holds 5 at 1;", 1, 7);
        behindHead("lake has 5 in h of a;", 1, 5);
        behindHead("lake l has 5 in of a;", 1, 16);
        behindHead("lake l has 5 in h of in;", 1, 21);
        behindHead("owes owes a 5;", 1, 5);
        behindHead("owes a owes 5;", 1, 7);
        // one letter fewer is a name, which is not there
        behindHead("owes owe a 5;", 3, 5);
    }

    private static void figuresOfEachRule() {
        Check.sentence("PART: N; has; night; beside; in leaks: drought; in may: steps; free;");
        String[] figures = {"1", "has", "night", "beside", "drought", "steps", "free", "all", "holds", "name"};
        for (int i = 0; i < figures.length; i++) {
            fits("leaks " + figures[i] + ";", i < 5, 6);
            fits("worth " + figures[i] + ";", i < 4, 6);
            fits("may " + figures[i] + "=1;", i < 4 || i == 5 || i == 6, i == 7 ? 7 : 4);
            fits("worth if(1<" + figures[i] + ",1,1);", i < 4, 11);
            fits("leaks if(1<" + figures[i] + ",1,1);", i < 5, 11);
            fits("may 1<if(all,1," + figures[i] + ");", i < 4 || i == 5 || i == 6, 15);
        }
    }

    private static void fits(String text, boolean good, int place) {
        Check.fault(text, good ? 0 : 1, good ? -1 : place);
    }

    private static void nameThatIsThere() {
        Check.sentence("2 a NAME to be given that is there already, at its first byte;");
        behindHead("owner a;", 2, 6);
        behindHead("owner h;", 2, 6);
        behindHead("hollow b holds 0 at 1000;", 2, 7);
        behindHead("lake  h has 0 in x of y;", 2, 6);
        behindHead("owner\n\nb", 2, 7);
        good(HEAD + "owner c;");
        good(HEAD + "owner aa;");
        // a lake's name is there when its statement has ended
        behindHead("lake l has 5 in h of a;lake l", 2, 28);
        behindHead("lake l has 5 in h of a;owner l", 2, 29);
        behindHead("lake l has 5 in h of a;hollow l", 2, 30);
    }

    private static void nameThatIsNoneOfThese() {
        Check.sentence("3 a NAME that is none of what is asked, or one that can't be (the same one, a HOLLOW without room), at its first byte;");
        behindHead("lake l has 5 in x of a;", 3, 16);
        behindHead("lake l has 5 in a of a;", 3, 16);
        behindHead("lake l has 5 in  hh of a;", 3, 17);
        behindHead("lake l has 5 in h of h;", 3, 21);
        behindHead("lake l has 5 in h of aa;", 3, 21);
        behindHead("owes x a 5;", 3, 5);
        behindHead("owes h a 5;", 3, 5);
        behindHead("owes a x 5;", 3, 7);
        behindHead("owes a h 5;", 3, 7);
        behindHead("owes a a 5;", 3, 7);
        good(HEAD + "owes a b 5;");
        behindHead("lake l has 51 in h of a;", 3, 17);
        good(HEAD + "lake l has 50 in h of a;");
    }

    private static void numberThatCannotBe() {
        Check.sentence("4 a NUMBER that can't be, at its first byte;");
        Check.fault("carts 0;", 4, 6);
        Check.fault("carts  0000;", 4, 7);
        good("carts 1;");
        good("carts 999;");
        Check.fault("carts 1000;", 4, 6);
        Check.fault("drought\n101;", 4, 8);
        Check.fault("drought 101", 4, 8);
        Check.fault("hollow h holds 0", 4, 15);
        Check.fault("hollow h holds 5 at 100x", 4, 20);
        // in a sum every number can be
        good("leaks 0;worth 9999;may 0<9999;");
    }

    private static void eighthBracket() {
        Check.sentence("5 the 8th ( [ not that is open at once (not until its FACT ends), at it;");
        good("leaks " + "(".repeat(6) + "1" + ")".repeat(6) + ";");
        good("leaks " + "(".repeat(7) + "1" + ")".repeat(7) + ";");
        Check.fault("leaks " + "(".repeat(8) + "1" + ")".repeat(8) + ";", 5, 13);
        Check.fault("leaks " + "(".repeat(9) + "1" + ")".repeat(9) + ";", 5, 13);
        Check.fault("leaks " + "( ".repeat(8), 5, 20);
        Check.fault("leaks " + "(".repeat(7), 1, 13);
        Check.fault("worth " + "(".repeat(8) + "1" + ")".repeat(8) + ";", 5, 13);
        good("may 1=" + "(".repeat(7) + "1" + ")".repeat(7) + ";");
        Check.fault("may 1=" + "(".repeat(8) + "1" + ")".repeat(8) + ";", 5, 13);
        String[] pairs = {"min(", "max("};
        for (String pair : pairs) {
            good("leaks " + pair.repeat(7) + "1" + ",1)".repeat(7) + ";");
            Check.fault("leaks " + pair.repeat(8) + "1" + ",1)".repeat(8) + ";", 5, 6 + 7 * 4 + 3);
            good("leaks " + (pair + "1,").repeat(7) + "1" + ")".repeat(7) + ";");
            Check.fault("leaks " + (pair + "1,").repeat(8) + "1" + ")".repeat(8) + ";", 5, 6 + 7 * 6 + 3);
        }
        good("leaks " + "if(1<".repeat(7) + "1" + ",1,1)".repeat(7) + ";");
        Check.fault("leaks " + "if(1<".repeat(8) + "1" + ",1,1)".repeat(8) + ";", 5, 6 + 7 * 5 + 2);
        good("leaks " + "if(all,".repeat(7) + "1" + ",1)".repeat(7) + ";");
        Check.fault("leaks " + "if(all,".repeat(8) + "1" + ",1)".repeat(8) + ";", 5, 6 + 7 * 7 + 2);
        good("leaks " + "if(all,1,".repeat(7) + "1" + ")".repeat(7) + ";");
        Check.fault("leaks " + "if(all,1,".repeat(8) + "1" + ")".repeat(8) + ";", 5, 6 + 7 * 9 + 2);
    }

    private static void eighthSquareBracket() {
        Check.sentence("5 the 8th ( [ not that is open at once (not until its FACT ends), at it;");
        good("may " + "[".repeat(6) + "all" + "]".repeat(6) + ";");
        good("may " + "[".repeat(7) + "all" + "]".repeat(7) + ";");
        Check.fault("may " + "[".repeat(8) + "all" + "]".repeat(8) + ";", 5, 11);
        Check.fault("may " + "[".repeat(9) + "all" + "]".repeat(9) + ";", 5, 11);
        Check.fault("may " + "[".repeat(7), 1, 11);
        good("may " + "[all and ".repeat(7) + "all" + "]".repeat(7) + ";");
        Check.fault("may " + "[all and ".repeat(8) + "all" + "]".repeat(8) + ";", 5, 4 + 7 * 9);
        good("may " + "[all or ".repeat(7) + "all" + "]".repeat(7) + ";");
        Check.fault("may " + "[all or ".repeat(8) + "all" + "]".repeat(8) + ";", 5, 4 + 7 * 8);
    }

    private static void eighthNot() {
        Check.sentence("5 the 8th ( [ not that is open at once (not until its FACT ends), at it;");
        good("may " + "not ".repeat(6) + "all;");
        good("may " + "not ".repeat(7) + "all;");
        Check.fault("may " + "not ".repeat(8) + "all;", 5, 32);
        Check.fault("may " + "not ".repeat(9) + "all;", 5, 32);
        Check.fault("may " + "not ".repeat(7), 1, 32);
        Check.fault("may " + "not\n".repeat(8), 5, 32);
    }

    private static void eighthOfAllKinds() {
        Check.sentence("5 the 8th ( [ not that is open at once (not until its FACT ends), at it;");
        String six = "may not [not [not [";
        good(six + "(1)=1]]];");
        good(six + "[all]]]];");
        good(six + "not all]]];");
        good(six + "min(1,1)=1]]];");
        good(six + "if(all,1,1)=1]]];");
        Check.fault(six + "((1))=1]]];", 5, six.length() + 1);
        Check.fault(six + "[[all]]]]];", 5, six.length() + 1);
        Check.fault(six + "not not all]]];", 5, six.length() + 4);
        Check.fault(six + "[not all]]]];", 5, six.length() + 1);
        Check.fault(six + "not [all]]]];", 5, six.length() + 4);
        Check.fault(six + "not (1)=1]]];", 5, six.length() + 4);
        Check.fault(six + "[(1)=1]]]];", 5, six.length() + 1);
        Check.fault(six + "(min(1,1))=1]]];", 5, six.length() + 4);
        Check.fault(six + "if(not all,1,1)=1]]];", 5, six.length() + 3);
        Check.fault(six + "if([all],1,1)=1]]];", 5, six.length() + 3);
        Check.fault(six + "if(all,(1),1)=1]]];", 5, six.length() + 7);
        Check.fault(six + "if(all,1,(1))=1]]];", 5, six.length() + 9);
        Check.fault(six + "max((1),1)=1]]];", 5, six.length() + 4);
        Check.fault(six + "max(1,(1))=1]]];", 5, six.length() + 6);
    }

    private static void notUntilItsFactEnds() {
        Check.sentence("(not until its FACT ends)");
        String seven = "may " + "not ".repeat(7);
        Check.fault(seven + "(1)=1;", 5, 32);
        Check.fault(seven + "1=(1);", 5, 34);
        Check.fault(seven + "1=min(1,1);", 5, 37);
        good(seven + "1=1;");
        // behind the fact all seven are closed
        String closed = seven + "1=1 and ";
        good(closed + "(".repeat(7) + "1" + ")".repeat(7) + "=1;");
        Check.fault(closed + "(".repeat(8) + "1" + ")".repeat(8) + "=1;", 5, closed.length() + 7);
        good(seven + "all or " + "not ".repeat(7) + "all and " + "not ".repeat(7) + "all;");
        String six = "may " + "not ".repeat(6);
        good(six + "(1)=(1);");
        good(six + "[all] and " + "not ".repeat(6) + "[all];");
        Check.fault(six + "[(1)=1];", 5, 29);
        // the not within [ ends with its fact, ahead of the and
        good("may [not all and " + "not ".repeat(6) + "all];");
        Check.fault("may [not all and " + "not ".repeat(7) + "all];", 5, 17 + 24);
        // a not around [ is open within it, and behind it no more
        good("may not [" + "not ".repeat(5) + "all] and " + "not ".repeat(7) + "all;");
        Check.fault("may not [" + "not ".repeat(6) + "all];", 5, 9 + 20);
    }

    private static void closedOnesDoNotCount() {
        Check.sentence("5 the 8th ( [ not that is open at once");
        good("leaks " + "(1)+".repeat(20) + "(1);");
        good("leaks " + "(((((((1)))))))*".repeat(5) + "1;");
        good("leaks (((((((1)))))))+(((((((1)))))));");
        good("leaks ((((((" + "(1)+".repeat(5) + "(1)))))));");
        good("may " + "[all] and ".repeat(20) + "all;");
        good("may " + "not all or ".repeat(20) + "all;");
        good("leaks min((((((1))))),(((((1))))))" + "+max((((((1))))),1);");
        good("leaks (((((((1)))))));worth (((((((1)))))));may [[[[[[[all]]]]]]];");
    }

    private static void oneTooManyOfAKind() {
        Check.sentence("6 one too many of a kind of STATEMENT (a second leaks, worth, may, too), or the 81st STATEMENT (whatever it is), at its first byte.");
        Check.fault("leaks 1;  leaks 1;", 6, 10);
        Check.fault("worth 1;\nworth", 6, 9);
        Check.fault("may all;may x", 6, 8);
        good("leaks 1;worth 1;may all;drought 1;drought 1;carts 1;carts 1;");
        String hollows = "hollow a holds 1 at 1;hollow b holds 1 at 1;hollow c holds 1 at 1;hollow d holds 1 at 1;hollow e holds 1 at 1;"
                + "hollow f holds 1 at 1;hollow g holds 1 at 1;";
        good(hollows + "hollow h holds 1 at 1;");
        Check.fault(hollows + "hollow h holds 1 at 1; hollow i holds 1 at 1;", 6, hollows.length() + 23);
        Check.fault(hollows + "hollow h holds 1 at 1;hollow h", 6, hollows.length() + 22);
    }

    private static void the81stStatement() {
        Check.sentence("or the 81st STATEMENT (whatever it is), at its first byte.");
        String full = "carts 1;".repeat(80);
        good(full);
        good(full + "\n");
        String[] all = {"carts 1;", "carts 0;", "owner a;", "hollow h holds 1 at 1;", "leaks 1;", "worth 1;", "may all;", "drought 5;",
            "owes a b 5;", "lake l has 1 in h of a;", "leaks", "owner"};
        for (String more : all) {
            Check.fault(full + more, 6, 640);
            Check.fault(full + " \n " + more, 6, 643);
        }
        String one = "carts 1;".repeat(79);
        Check.fault(one + "owner a;owner a;", 6, one.length() + 8);
        Check.fault(one + "owner owner;", 1, one.length() + 6);
        Check.fault(one + "x", 1, one.length());
        String rules = "leaks 1;worth 1;may all;" + "carts 1;".repeat(76);
        Check.fault(rules + "leaks 1;", 6, rules.length());
        Check.fault(rules + "carts 1;leaks 1;", 6, rules.length() + 8);
    }

    private static void theFirstAlongTheText() {
        Check.sentence("FAULTS, the first along the text:");
        Check.fault("carts 0;carts 1000;x", 4, 6);
        Check.fault("carts 1;carts 1000;x", 4, 14);
        Check.fault("carts 1;carts 999;x", 1, 18);
        behindHead("owes a a 1000 x", 3, 7);
        behindHead("owes a b 1000 x", 4, 9);
        behindHead("owes a b 999 x", 1, 13);
        behindHead("lake l has 0 in x of x", 4, 11);
        behindHead("lake l has 51 in h of x", 3, 17);
        behindHead("lake l has 50 in h of x", 3, 22);
        behindHead("lake a has 0", 2, 5);
        Check.fault("leaks " + "(".repeat(8) + "12345", 5, 13);
        Check.fault("leaks " + "(".repeat(7) + "12345", 1, 17);
        Check.fault("leaks " + "(".repeat(7) + "1(", 1, 14);
        Check.fault("leaks 1;leaks 12345", 6, 8);
    }
}
