/** The small language of leaks, worth and may, by promises 9, 23 and 25. */
public final class RulesTest {
    public static void main(String[] args) {
        sums();
        limits();
        tests();
        figures();
        depth();
        longRules();
        Check.finish();
    }

    /** What the sum is, by way of a test, so that it can be seen below 0, too. */
    private static void sum(String sum, int want) {
        int size = Math.abs(want);
        String due = want < 0 ? "0-" + size / 1000 + "*1000-" + size % 1000 : size / 1000 + "*1000+" + size % 1000;
        LakeMarket x = Check.market("hollow h holds 99 at 0;owner a;lake l has 20 in h of a;lake m has 3 in h of a;"
                + "worth if((" + sum + ")=" + due + ",1,2);");
        Check.due(sum + " is " + want, x.lake(0, 3), 1);
    }

    private static void sums() {
        sum("1+2*3", 7);
        sum("(1+2)*3", 9);
        sum("10-3-2", 5);
        sum("10-(3-2)", 9);
        sum("100/10/2", 5);
        sum("100/(10/2)", 20);
        sum("2*7/3", 4);
        sum("7/3*2", 4);
        sum("17%10%4", 3);
        sum("2*17%10", 4);
        sum("7/2", 3);
        sum("(0-7)/2", -4);
        sum("7/(0-2)", -4);
        sum("(0-7)/(0-2)", 3);
        sum("(0-8)/2", -4);
        sum("7%3", 1);
        sum("(0-7)%3", 2);
        sum("7%(0-3)", -2);
        sum("(0-7)%(0-3)", -1);
        sum("6%3", 0);
        sum("7/0", 0);
        sum("7%0", 0);
        sum("0/0", 0);
        sum("(0-7)/0", 0);
        sum("(0-7)%0", 0);
        sum("min(3,5)", 3);
        sum("min(5,3)", 3);
        sum("max(3,5)", 5);
        sum("max(0-3,0-5)", -3);
        sum("if(1<2,10,20)", 10);
        sum("if(2<1,10,20)", 20);
        sum("if(all,1,2)+if(not all,1,2)", 3);
        sum("has", 20);
        sum("beside", 1);
        sum("night", 0);
        sum("0009", 9);
    }

    private static void limits() {
        sum("1000*1000-1", 999999);
        sum("1001*1000-1", 999999);
        sum("9999*9999-9999*100", 100);
        sum("9999*9999/1000", 1000);
        sum("(0-9999*9999)/1000", -1000);
        sum("(0-9999)*9999+1", -999999);
        sum("1000*1000+1000*1000-1000*1000", 0);
        sum("0-1000*1000-1+1", -999999);
        sum("9999*9999*0", 0);
        sum("(9999*9999)*(9999*9999)/9999", 100);
        sum("(0-1000*1000)/(0-1)-1", 999999);
    }

    private static void test(String test, boolean want) {
        LakeMarket x = Check.market("hollow h holds 99 at 10;hollow i holds 50 at 3;owner a;lake l has 20 in h of a;"
                + "lake m has 4 in i of a;may " + test + ";");
        Check.due(test, x.move(0, 1) ? 1 : 0, want ? 1 : 0);
    }

    private static void tests() {
        test("all", true);
        test("not all", false);
        test("not not all", true);
        test("1<2", true);
        test("2<2", false);
        test("3>2", true);
        test("2>2", false);
        test("2=2", true);
        test("2=1", false);
        test("all or all and not all", true);
        test("not all and all or all", true);
        test("[all or all] and not all", false);
        test("not all or not all", false);
        test("not all and all", false);
        test("not [all and not all]", true);
        test("not [not all or all]", false);
        test("not 1<2 and all", false);
        test("not 1<2 or all", true);
        test("all and all and all", true);
        test("all and not all and all", false);
        test("not all or not all or all", true);
        test("1+1=2 and 2*2<5", true);
        test("(1)+(1)=min(2,3)", true);
        test("if(has=20,1,0)=1", true);
    }

    private static void figures() {
        test("has=20", true);
        test("night=0", true);
        test("beside=1", true);
        test("steps=7", true);
        test("free=46", true);
        LakeMarket x = Check.market("hollow h holds 99 at 3;hollow i holds 50 at 10;owner a;lake l has 20 in h of a;"
                + "lake m has 4 in h of a;may steps=7 and beside=night-1 and free=50-4*beside;leaks 0;");
        Check.no("beside 0, night 0", x.move(0, 1));
        x.nights(1);
        Check.yes("beside 0, night 1", x.move(1, 1));
        Check.no("beside 1, night 1", x.move(0, 1));
        x.nights(1);
        Check.yes("beside 1, night 2", x.move(0, 1));
        LakeMarket y = Check.market("hollow h holds 99 at 3;owner a;lake l has 90 in h of a;lake m has 4 in h of a;"
                + "leaks night*10+drought*5+beside;drought 100;");
        Check.due("night 0", y.lake(0, 4), 1);
        Check.due("night 0", y.nights(1), 2);
        Check.due("night 1", y.lake(0, 4), 11);
        Check.due("night 1, a drought", y.chance(1), 1);
        Check.due("leaked in a drought", y.lake(0, 0), 89 - 16);
        Check.due("all it had", y.lake(1, 0), 0);
        Check.due("none beside", y.lake(0, 4), 20);
    }

    private static void depth() {
        sum("1+(1+(1+(1+(1+(1+1)))))", 7);
        sum("2*(1+2*(1+2*(1+2*(1+2*(1+2)))))", 126);
        test("1<2 and not [1>2 or not [1<2 and not [1>2 or 2+3*(4-1)=10]]]", true);
        LakeMarket x = Check.market("hollow h holds 9 at 0;owner a;lake l has 1 in h of a;"
                + "worth if(2<1 or all and 1<1+1*if(2<1 or all and 1<1+1*if(2<1 or all and 1<1+1*"
                + "if(2<1 or all and 1<1+1*if(2<1 or all and 1<1+1*if(2<1 or all and 1<1+1*"
                + "if(2<1 or all and 1<1+1*2,1,2),3,4),5,6),7,8),9,10),11,12),13,14);");
        Check.due("seven deep, everything waiting", x.lake(0, 3), 13);
    }

    private static void longRules() {
        StringBuilder sum = new StringBuilder("hollow h holds 9 at 0;owner a;lake l has 1 in h of a;worth 1");
        int ones = 1;
        while (sum.length() + 3 < 1600) {
            sum.append("+1");
            ones++;
        }
        LakeMarket x = Check.market(sum + ";");
        Check.due("as long as the tape is", x.lake(0, 3), ones);
        StringBuilder three = new StringBuilder("hollow h holds 99 at 0;hollow i holds 99 at 1;owner a;"
                + "lake l has 1 in h of a;worth 1+1;leaks 0*1;may 1<2;");
        LakeMarket y = Check.market(three.toString());
        Check.due("worth", y.lake(0, 3), 2);
        Check.due("leaks", y.lake(0, 4), 0);
        Check.yes("may", y.move(0, 1));
    }
}
