/** Boundary cases, sentence by sentence: the small language, what a lake is worth, what it leaks (Terms, I and II). */
public final class BoundsRuleTest {
    private static final String TWO = "hollow h holds 999 at 0;hollow i holds 999 at 0;owner a;";

    public static void main(String[] args) {
        above();
        below();
        eachOperation();
        by0();
        greatestNotAbove();
        whatIsLeft();
        firstOrSecondSum();
        signs();
        factsTogether();
        fromTheLeftOn();
        beside();
        steps();
        free();
        night();
        droughtOrNot();
        worth();
        worthWithout();
        leaks();
        leaksWithout();
        byWhatIsAhead();
        gone();
        Check.finish();
    }

    /** A number of any size as a sum of numbers of four digits. */
    private static String told(int n) {
        int size = Math.abs(n);
        String sum = "(" + size / 1000 + "*1000+" + size % 1000 + ")";
        return n < 0 ? "(0-" + sum + ")" : sum;
    }

    private static void sum(String sum, int want) {
        LakeMarket x = Check.market(TWO + "lake l has 20 in h of a;worth if((" + sum + ")=" + told(want) + ",1,0);");
        Check.due(sum + " is " + want, x.lake(0, 3), 1);
    }

    private static void above() {
        Check.sentence("each result above 10 to the 6 is that, below -10 to the 6 likewise.");
        sum("1000*1000-1", 999999);
        sum("1000*999+999+0", 999999);
        sum("1000*999+999+1", 1000000);
        sum("1000*999+999+2", 1000000);
        // what is above is 10 to the 6 at once, for what comes behind it
        sum("1000*999+999+1-1", 999999);
        sum("1000*999+999+2-1", 999999);
        sum("1000*999+999+2-2", 999998);
        sum("1000*1000+9999-9999", 990001);
    }

    private static void below() {
        Check.sentence("below -10 to the 6 likewise.");
        sum("0-1000*999-999", -999999);
        sum("0-1000*999-999-1", -1000000);
        sum("0-1000*999-999-2", -1000000);
        sum("0-1000*999-999-1+1", -999999);
        sum("0-1000*999-999-2+1", -999999);
        sum("0-1000*999-999-2+2", -999998);
        sum("0-1000*1000-9999+9999", -990001);
    }

    private static void eachOperation() {
        Check.sentence("each result above 10 to the 6 is that");
        sum("999*1001-1", 999998);
        sum("1000*1000-1", 999999);
        sum("101*9901-1", 999999);
        sum("(0-999)*1001+1", -999998);
        sum("(0-1000)*1000+1", -999999);
        sum("(0-101)*9901+1", -999999);
        sum("9999*9999*9999*0+1", 1);
        sum("(1000*1000)*(1000*1000)-1", 999999);
        sum("(0-1000*1000)*(1000*1000)+1", -999999);
        sum("(0-1000*1000)*(0-1000*1000)-1", 999999);
        sum("1000*1000-(0-1)-1", 999999);
        sum("1000*1000-(0-1000*1000)-1", 999999);
        sum("(0-1000*1000)-1000*1000+1", -999999);
        sum("(0-1000*1000)/(0-1)-1", 999999);
        sum("1000*1000/(0-1)+1", -999999);
        sum("1000*1000/1", 1000000);
        sum("max(1000*1000,1)", 1000000);
        sum("min(0-1000*1000,1)", -1000000);
        sum("if(all,1000*1000,1)", 1000000);
    }

    private static void by0() {
        Check.sentence("by 0 both give 0;");
        int[] numbers = {-1000000, -7, -1, 0, 1, 7, 9999, 1000000};
        for (int n : numbers) {
            sum(told(n) + "/0", 0);
            sum(told(n) + "%0", 0);
            sum(told(n) + "/1", n);
            sum(told(n) + "%1", 0);
            sum(told(n) + "/(0-1)", -n);
            sum(told(n) + "%(0-1)", 0);
        }
        sum("5/(3-3)+1", 1);
        sum("5%(3-3)+1", 1);
    }

    private static void greatestNotAbove() {
        Check.sentence("/ gives the greatest whole number not above, % what is left (a less b times that);");
        for (int b = -4; b <= 4; b++) {
            for (int a = -9; a <= 9; a++) {
                int want = 0;
                if (b != 0) {
                    // the greatest n with n <= a / b
                    want = -20;
                    while ((want + 1) * b * Integer.signum(b) <= a * Integer.signum(b)) {
                        want++;
                    }
                }
                sum(told(a) + "/" + told(b), want);
            }
        }
    }

    private static void whatIsLeft() {
        Check.sentence("% what is left (a less b times that);");
        int[][] rows = {{8, 4, 0}, {7, 4, 3}, {9, 4, 1}, {-8, 4, 0}, {-7, 4, 1}, {-9, 4, 3}, {8, -4, 0}, {7, -4, -1}, {9, -4, -3},
            {-8, -4, 0}, {-7, -4, -3}, {-9, -4, -1}, {0, 4, 0}, {0, -4, 0}, {3, 4, 3}, {-1, 4, 3}, {1, -4, -3}, {1000000, 999, 1},
            {-1000000, 999, 998}};
        for (int[] row : rows) {
            sum(told(row[0]) + "%" + told(row[1]), row[2]);
        }
    }

    private static void firstOrSecondSum() {
        Check.sentence("(the first SUM where the TEST holds, else the second one)");
        for (int n = 4; n <= 6; n++) {
            sum("if(" + n + "<5,10,20)", n < 5 ? 10 : 20);
            sum("if(" + n + ">5,10,20)", n > 5 ? 10 : 20);
            sum("if(" + n + "=5,10,20)", n == 5 ? 10 : 20);
            sum("min(" + n + ",5)", Math.min(n, 5));
            sum("max(" + n + ",5)", Math.max(n, 5));
            sum("min(5," + n + ")", Math.min(n, 5));
            sum("max(5," + n + ")", Math.max(n, 5));
        }
        sum("if(all,0,1)", 0);
        sum("if(not all,0,1)", 1);
    }

    private static void signs() {
        Check.sentence("SUM SIGN SUM, SIGN < or > or = .");
        int[] numbers = {-1000000, -1, 0, 1, 1000000};
        for (int a : numbers) {
            for (int b : numbers) {
                sum("if(" + told(a) + "<" + told(b) + ",1,2)", a < b ? 1 : 2);
                sum("if(" + told(a) + ">" + told(b) + ",1,2)", a > b ? 1 : 2);
                sum("if(" + told(a) + "=" + told(b) + ",1,2)", a == b ? 1 : 2);
            }
        }
    }

    private static void factsTogether() {
        Check.sentence("TEST: BOTH { or BOTH }. BOTH: FACT { and FACT }. FACT: not FACT; [ TEST ] ; all; SUM SIGN SUM");
        String[] yes = {"all", "1<2", "2>1", "1=1", "not 2<1", "[all]"};
        String[] no = {"not all", "2<1", "1>2", "1=2", "not 1<2", "[not all]"};
        for (String a : yes) {
            for (String b : yes) {
                sum("if(" + a + " and " + b + ",1,0)", 1);
                sum("if(" + a + " or " + b + ",1,0)", 1);
            }
            for (String b : no) {
                sum("if(" + a + " and " + b + ",1,0)", 0);
                sum("if(" + b + " and " + a + ",1,0)", 0);
                sum("if(" + a + " or " + b + ",1,0)", 1);
                sum("if(" + b + " or " + a + ",1,0)", 1);
                sum("if(" + a + " or " + a + " and " + b + ",1,0)", 1);
                sum("if([" + a + " or " + a + "] and " + b + ",1,0)", 0);
                sum("if(not [" + a + " and " + b + "],1,0)", 1);
            }
        }
        for (String a : no) {
            for (String b : no) {
                sum("if(" + a + " and " + b + ",1,0)", 0);
                sum("if(" + a + " or " + b + ",1,0)", 0);
                sum("if(not [" + a + " or " + b + "],1,0)", 1);
            }
        }
    }

    private static void fromTheLeftOn() {
        Check.sentence("All from the left on;");
        sum("9-5-3", 1);
        sum("9-5+3", 7);
        sum("100/10/5", 2);
        sum("100/10*5", 50);
        sum("100%30%7", 3);
        sum("7*7%10", 9);
        sum("7%4*3", 9);
        sum("2+3*4-5", 9);
        sum("1000*1000+1000*1000-1000*1000", 0);
        sum("1000*1000-1000*1000+1000*1000-1", 999999);
    }

    private static String lakesIn(String hollow, int count) {
        StringBuilder text = new StringBuilder();
        for (int i = 0; i < count; i++) {
            text.append("lake l").append((char) ('a' + i)).append(" has 2 in ").append(hollow).append(" of a;");
        }
        return text.toString();
    }

    private static void beside() {
        Check.sentence("how many other LAKES lie in its HOLLOW, in may in the one to which it goes;");
        for (int count = 1; count <= 8; count++) {
            LakeMarket x = Check.market(TWO + lakesIn("h", count) + "worth 100+beside;leaks beside;");
            Check.due("worth beside " + (count - 1), x.lake(0, 3), 100 + count - 1);
            Check.due("leaks beside " + (count - 1), x.lake(0, 4), Math.min(2, count - 1));
        }
        for (int count = 0; count <= 7; count++) {
            for (int told = count - 1; told <= count + 1; told++) {
                LakeMarket x = Check.market(TWO + "lake m has 2 in h of a;" + lakesIn("i", count) + "may beside=0+" + Math.max(0, told)
                        + (told < 0 ? "-1" : "") + ";");
                Check.due("beside " + count + " where it goes is " + told, x.move(0, 1) ? 1 : 0, told == count ? 1 : 0);
            }
        }
        LakeMarket x = Check.market(TWO + lakesIn("h", 2) + "worth 100+beside;");
        x.pour(0, 1);
        Check.due("one that is gone is not beside", x.lake(0, 3), 100);
    }

    private static void steps() {
        Check.sentence("how far it goes, PLACE from PLACE;");
        int[][] places = {{0, 99}, {99, 0}, {5, 5}, {5, 6}, {6, 5}};
        for (int[] row : places) {
            int far = Math.abs(row[0] - row[1]);
            String text = "hollow h holds 9 at " + row[0] + ";hollow i holds 9 at " + row[1] + ";owner a;lake l has 9 in h of a;may steps";
            Check.no("steps below " + far, Check.market(text + "<" + far + ";").move(0, 1));
            Check.yes("steps just " + far, Check.market(text + "=" + far + ";").move(0, 1));
            Check.no("steps above " + far, Check.market(text + ">" + far + ";").move(0, 1));
        }
    }

    private static void free() {
        Check.sentence("room there ahead of it.)");
        String text = "hollow h holds 9 at 0;hollow i holds 9 at 0;owner a;lake k has 4 in i of a;lake l has 5 in h of a;may free";
        Check.no("free below 5", Check.market(text + "<5;").move(1, 1));
        Check.yes("free just 5", Check.market(text + "=5;").move(1, 1));
        Check.no("free above 5", Check.market(text + ">5;").move(1, 1));
        String most = "hollow h holds 1 at 0;hollow i holds 999 at 0;owner a;lake k has 1 in h of a;may free";
        Check.yes("free just 999", Check.market(most + "=999;").move(0, 1));
        Check.no("free above 999", Check.market(most + ">999;").move(0, 1));
    }

    private static void night() {
        Check.sentence("It is NIGHT 0 at first.");
        String text = TWO + "lake l has 9 in h of a;worth night;leaks if(night=9998,2,1);may night=0;";
        LakeMarket x = Check.market(text);
        Check.due("night 0", x.has(3), 0);
        Check.due("worth in night 0", x.lake(0, 3), 0);
        Check.yes("may in night 0", x.move(0, 1));
        x.nights(1);
        Check.due("worth in night 1", x.lake(0, 3), 1);
        Check.no("may in night 1", x.move(0, 0));
        LakeMarket late = Check.at(9998, text);
        Check.due("worth in night 9998", late.lake(0, 3), 9998);
        Check.due("leaks by the night it is ahead of it", late.nights(1), 2);
        Check.due("worth in night 9999", late.lake(0, 3), 9999);
        Check.due("would leak", late.lake(0, 4), 1);
    }

    private static void droughtOrNot() {
        Check.sentence("1 in a drought, else 0;");
        String text = TWO + "lake l has 9 in h of a;leaks 1+drought;drought 100;";
        LakeMarket x = Check.market(text);
        Check.due("would leak without a drought", x.lake(0, 4), 1);
        Check.due("without draws there is none", x.nights(1), 1);
        Check.due("by the seed there is one", x.chance(1), 1);
        Check.due("2 leaked in it", x.lake(0, 0), 6);
        Check.due("ahead there is none", x.later(1, 0), 5);
        LakeMarket never = Check.market(text + "drought 0;");
        Check.due("no drought", never.chance(1), 0);
        Check.due("1 leaked", never.lake(0, 0), 8);
    }

    private static void worth() {
        Check.sentence("What a LAKE is WORTH is the SUM of worth, 0 .. 9999 (its BARRELS without; below is 0, above 9999).");
        int[][] rows = {{-1000000, 0}, {-1, 0}, {0, 0}, {1, 1}, {9998, 9998}, {9999, 9999}, {10000, 9999}, {1000000, 9999}};
        for (int[] row : rows) {
            LakeMarket x = Check.market(TWO + "owner b;lake l has 9 in h of a;worth " + told(row[0]) + ";");
            Check.due("lake worth " + row[0], x.lake(0, 3), row[1]);
            Check.due("all worth " + row[0], x.has(6), row[1]);
            Check.due("owner's worth " + row[0], x.owner(0, 1), row[1]);
            Check.due("later worth " + row[0], x.later(0, -1), row[1]);
            Check.due("spent worth " + row[0], x.spend(0, 1), row[1]);
            Check.due("paid worth " + row[0], x.pay(0, 1, 1), row[1]);
        }
    }

    private static void worthWithout() {
        Check.sentence("(its BARRELS without; below is 0, above 9999)");
        int[] barrels = {1, 2, 998, 999};
        for (int n : barrels) {
            Check.due("worth " + n, Check.market(TWO + "lake l has " + n + " in h of a;").lake(0, 3), n);
        }
        LakeMarket none = Check.market(TWO + "lake l has 9 in h of a;worth 0;");
        Check.due("a sum of 0 is not without", none.lake(0, 3), 0);
    }

    private static void leaks() {
        Check.sentence("each LAKE, by numbers, LEAKS the SUM of leaks, 0 .. what it has (0 without), all by what is ahead of it;");
        int[][] rows = {{-1000000, 0}, {-1, 0}, {0, 0}, {1, 1}, {8, 8}, {9, 9}, {10, 9}, {1000000, 9}};
        for (int[] row : rows) {
            LakeMarket x = Check.market(TWO + "lake l has 9 in h of a;leaks " + told(row[0]) + ";");
            Check.due("would leak " + row[0], x.lake(0, 4), row[1]);
            Check.due("behind one night", x.later(1, 0), 9 - row[1]);
            Check.due("leaks " + row[0], x.nights(1), row[1]);
            Check.due("what is left", x.lake(0, 0), 9 - row[1]);
            Check.due("gone or not", x.has(4), row[1] < 9 ? 1 : 0);
            Check.due("lies", x.lake(0, 1), row[1] < 9 ? 0 : -1);
            Check.due("whose", x.lake(0, 2), row[1] < 9 ? 0 : -1);
        }
    }

    private static void leaksWithout() {
        Check.sentence("LEAKS the SUM of leaks, 0 .. what it has (0 without)");
        LakeMarket x = Check.market(TWO + "lake l has 1 in h of a;lake m has 998 in h of a;");
        Check.due("would leak", x.lake(0, 4), 0);
        Check.due("nights", x.nights(100), 0);
        Check.due("chance", x.chance(100), 0);
        Check.due("barrels", x.has(5), 999);
    }

    private static void byWhatIsAhead() {
        Check.sentence("all by what is ahead of it;");
        LakeMarket x = Check.market(TWO + lakesIn("h", 3) + "leaks if(has=2,beside-1,0);");
        // each had two beside it ahead of the night, so each leaks one
        Check.due("three leak one each", x.nights(1), 3);
        LakeMarket y = Check.market(TWO + "lake k has 1 in h of a;lake l has 9 in h of a;lake m has 1 in h of a;leaks beside;");
        Check.due("the first and the last one go, the middle one loses two", y.nights(1), 4);
        Check.due("none is beside it now", y.nights(1), 0);
    }

    private static void gone() {
        Check.sentence("A LAKE without BARRELS is GONE: it lies nowhere and is nobody's, never comes back.");
        LakeMarket x = Check.market(TWO + "lake l has 2 in h of a;leaks 1;worth 5;");
        x.nights(1);
        Check.due("has 1", x.lake(0, 0), 1);
        Check.due("lies in h", x.lake(0, 1), 0);
        Check.due("in h lies", x.hollow(0, 3), 1);
        Check.due("is a's", x.owner(0, 0), 1);
        x.nights(1);
        Check.due("has 0", x.lake(0, 0), 0);
        Check.due("lies nowhere", x.lake(0, 1), -1);
        Check.due("is nobody's", x.lake(0, 2), -1);
        Check.due("in h lies none", x.hollow(0, 3), 0);
        Check.due("a has none", x.owner(0, 0), 0);
        Check.due("room", x.hollow(0, 2), 999);
        Check.due("nothing leaks", x.nights(100), 0);
        Check.due("does not come back", x.has(4), 0);
        Check.due("it is told still", x.has(2), 1);
        Check.due("its name, too", x.letter(2, 0, 0), 12);
        Check.due("worth nothing", x.lake(0, 3), 0);
        Check.due("would leak nothing", x.lake(0, 4), 0);
    }
}
