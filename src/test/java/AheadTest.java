/** Promises 12 to 14: later, broke, spend. */
public final class AheadTest {
    private static final String TEXT = "hollow h holds 99 at 0;hollow i holds 99 at 0;owner a;owner b;owner c;"
            + "lake l has 20 in h of a;lake m has 10 in h of b;lake n has 3 in i of a;owes a b 25;owes b a 1;"
            + "leaks 1+beside+drought*50;worth has*2-beside+night;drought 100;";

    public static void main(String[] args) {
        later();
        laterSeesTogether();
        broke();
        spend();
        nearTheLastNight();
        beyondTheLastNight();
        nothingChanges();
        Check.finish();
    }

    private static void later() {
        LakeMarket x = Check.market(TEXT);
        int[] l = {20, 18, 16, 14, 12, 10, 9, 8};
        int[] m = {10, 8, 6, 4, 2, 0, 0, 0};
        int[] n = {3, 2, 1, 0, 0, 0, 0, 0};
        for (int i = 0; i < l.length; i++) {
            Check.due("later(" + i + ", 0)", x.later(i, 0), l[i]);
            Check.due("later(" + i + ", 1)", x.later(i, 1), m[i]);
            Check.due("later(" + i + ", 2)", x.later(i, 2), n[i]);
        }
        Check.due("worth now", x.later(0, -1), 39 + 19 + 6);
        Check.due("worth behind 1", x.later(1, -1), 36 + 16 + 5);
        Check.due("worth behind 6", x.later(6, -1), 24);
        Check.due("worth behind 100", x.later(100, -1), 0);
        Check.due("behind 100", x.later(100, 0), 0);
        Check.due("behind 101", x.later(101, 0), -1);
        Check.due("behind 101", x.later(101, -1), -1);
        Check.due("behind -1", x.later(-1, 0), -1);
        Check.due("none such", x.later(1, 3), -1);
        Check.due("none such", x.later(1, 8), -1);
        Check.due("none such", x.later(1, -2), -1);
    }

    /** What leaks is by what is ahead of the night: a lake that goes in it still counts for those behind it. */
    private static void laterSeesTogether() {
        LakeMarket x = Check.market("hollow h holds 99 at 0;owner a;lake l has 1 in h of a;lake m has 9 in h of a;"
                + "lake n has 9 in h of a;leaks beside;");
        Check.due("gone", x.later(1, 0), 0);
        Check.due("two were beside", x.later(1, 1), 7);
        Check.due("two were beside", x.later(1, 2), 7);
        Check.due("one was beside", x.later(2, 1), 6);
    }

    private static void broke() {
        LakeMarket x = Check.market(TEXT);
        // a's lakes: 39 + 6, 36 + 5, 33 + 4, 30, 27, 25, 24: broke when below 25
        Check.due("broke(0)", x.broke(0), 6);
        Check.due("broke(1)", x.broke(1), 5);
        Check.due("owes nothing", x.broke(2), -1);
        Check.due("none such", x.broke(3), -1);
        Check.due("none such", x.broke(-1), -1);
        x.nights(4);
        Check.due("from then on", x.broke(0), 2);
        x.nights(2);
        Check.due("now", x.broke(0), 0);
        LakeMarket y = Check.market("hollow h holds 200 at 0;owner a;owner b;lake l has 102 in h of a;owes a b 2;leaks 1;");
        Check.due("not in 100 nights", y.broke(0), -1);
        y.nights(1);
        Check.due("in 100 nights", y.broke(0), 100);
    }

    private static void spend() {
        LakeMarket x = Check.market("hollow h holds 99 at 0;owner a;lake l has 20 in h of a;lake m has 10 in h of a;"
                + "leaks 0;worth if(night>5,if(has=20,12,50),night*2)+if(night=100,has-10,0);");
        Check.due("spend(0, 0)", x.spend(0, 0), 100);
        Check.due("spend(0, 1)", x.spend(0, 1), 22);
        Check.due("the soonest", x.spend(1, 0), 6);
        Check.due("spend(1, 1)", x.spend(1, 1), 50);
        Check.due("no such what", x.spend(0, 2), -1);
        Check.due("no such what", x.spend(0, -1), -1);
        Check.due("none such", x.spend(2, 0), -1);
        Check.due("none such", x.spend(-1, 0), -1);
        x.pour(0, 1);
        Check.due("gone", x.spend(1, 0), -1);
        Check.due("gone", x.spend(1, 1), -1);
        LakeMarket y = Check.market("hollow h holds 99 at 0;owner a;lake l has 20 in h of a;worth 0;leaks 1;");
        Check.due("never worth a thing", y.spend(0, 0), 0);
        Check.due("never worth a thing", y.spend(0, 1), 0);
        LakeMarket z = Check.market("hollow h holds 99 at 0;owner a;lake l has 20 in h of a;worth night;");
        z.nights(7);
        Check.due("counted from now on", z.spend(0, 0), 100);
        Check.due("counted from now on", z.spend(0, 1), 107);
        LakeMarket dry = Check.market("hollow h holds 99 at 0;owner a;owner b;lake l has 20 in h of a;owes a b 1;"
                + "leaks has*drought;worth if(has>0,night+1,0);drought 100;");
        Check.due("no droughts ahead", dry.spend(0, 0), 100);
        Check.due("no droughts ahead", dry.broke(0), -1);
        Check.due("no droughts ahead", dry.later(100, 0), 20);
    }

    private static void nearTheLastNight() {
        LakeMarket x = Check.market("hollow h holds 999 at 0;owner a;owner b;lake l has 900 in h of a;owes a b 898;worth has;"
                + "leaks if(night>9949,1,0);");
        for (int i = 0; i < 99; i++) {
            x.nights(100);
        }
        x.nights(49);
        Check.due("night", x.has(3), 9949);
        Check.due("50 nights", x.later(50, 0), 851);
        Check.due("51 nights", x.later(51, 0), -1);
        Check.due("broke", x.broke(0), 4);
        x.nights(50);
        Check.due("night", x.has(3), 9999);
        Check.due("now", x.later(0, 0), 851);
        Check.due("no later", x.later(1, 0), -1);
        Check.due("broke now", x.broke(0), 0);
        Check.due("spend now", x.spend(0, 0), 0);
        Check.due("spend now", x.spend(0, 1), 851);
        LakeMarket y = Check.market("hollow h holds 999 at 0;owner a;lake l has 900 in h of a;worth night%9999;");
        for (int i = 0; i < 99; i++) {
            y.nights(100);
        }
        y.nights(90);
        Check.due("not beyond", y.spend(0, 0), 8);
        Check.due("not beyond", y.spend(0, 1), 9998);
    }

    /** What would come in nights that never come counts for nothing. */
    private static void beyondTheLastNight() {
        LakeMarket x = Check.market("hollow h holds 999 at 0;owner a;owner b;lake l has 20 in h of a;owes a b 9;"
                + "worth has;leaks if(night>9989,1,0);");
        LakeMarket y = Check.market("hollow h holds 999 at 0;owner a;lake l has 20 in h of a;"
                + "worth 100-has;leaks if(night>9989,1,0);");
        for (int i = 0; i < 99; i++) {
            x.nights(100);
            y.nights(100);
        }
        x.nights(90);
        y.nights(90);
        Check.due("behind 9 nights he still has 11", x.broke(0), -1);
        Check.due("spent in the last night there is", y.spend(0, 0), 9);
        Check.due("worth in the last night there is", y.spend(0, 1), 89);
        Check.due("barrels in the last night there is", y.later(9, 0), 11);
    }

    private static void nothingChanges() {
        LakeMarket x = Check.market(TEXT);
        x.later(50, 0);
        x.broke(0);
        x.spend(0, 0);
        Check.due("night", x.has(3), 0);
        Check.due("barrels", x.has(5), 33);
        Check.due("acts", x.has(9), 0);
        Check.due("seed", x.has(10), 1);
    }
}
