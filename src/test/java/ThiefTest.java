/** Promises 21 and 22: stood, robbed. */
public final class ThiefTest {
    private static final String TEXT = "hollow h holds 99 at 0;hollow i holds 900 at 0;owner a;"
            + "lake k has 20 in h of a;lake l has 10 in h of a;lake m has 3 in h of a;lake n has 300 in i of a;"
            + "leaks beside+drought*9;drought 100;";

    public static void main(String[] args) {
        stood();
        refused();
        robbed();
        takesAllThatIsLeft();
        rowsAgain();
        gone();
        Check.finish();
    }

    private static int stood(LakeMarket x, int... rows) {
        Check.rows(x, rows);
        return x.stood();
    }

    private static void stood() {
        LakeMarket x = Check.market(TEXT);
        Check.due("one row", stood(x, 0, 0, 18), 1);
        Check.due("two rows", stood(x, 0, 0, 18, 1, 0, 8), 2);
        Check.due("the same lake, too", stood(x, 0, 0, 18, 0, 0, 8), 2);
        Check.due("eight rows", stood(x, 0, 0, 0, 1, 0, 0, 2, 0, 0, 3, 0, 0, 0, 0, 0, 1, 0, 0, 2, 0, 0, 3, 0, 0), 8);
        Check.due("999", stood(x, 0, 3, 231), 1);
        Check.due("not refused", x.status(5), 0);
        Check.due("the tape went", x.feed(0, 0, 0, 0, 0), 20);
    }

    private static void refused() {
        LakeMarket x = Check.market(TEXT);
        Check.due("ahead of any", x.robbed(5), -1);
        Check.due("none such", stood(x, 4, 0, 1), -1);
        Check.due("ahead of any", x.robbed(5), -1);
        Check.due("good", stood(x, 0, 0, 13), 1);
        int robbed = x.robbed(5);
        Check.due("robbed", robbed, 1);
        int[][] none = {{}, {0}, {0, 0}, {0, 0, 1, 0}, {4, 0, 1}, {0, 3, 232}, {0, 255, 255}, {0, 0, 13, 255, 0, 0},
            {0, 0, 0, 1, 0, 0, 2, 0, 0, 3, 0, 0, 0, 0, 0, 1, 0, 0, 2, 0, 0, 3, 0, 0, 0, 0, 0}};
        for (int i = 0; i < none.length; i++) {
            Check.due("none such", stood(x, none[i]), -1);
            Check.due("refused", x.status(5), i + 2);
            Check.due("the rows stay", x.robbed(5), robbed);
        }
    }

    private static void robbed() {
        LakeMarket x = Check.market(TEXT);
        // behind the night they have 18, 8, 1 and 300
        stood(x, 0, 0, 18);
        Check.due("at any other one, or nobody", x.robbed(5), 256 + 2 + 4 + 8);
        stood(x, 0, 0, 13);
        Check.due("at this one", x.robbed(5), 1);
        Check.due("not with so many", x.robbed(4), 0);
        stood(x, 0, 0, 18, 1, 0, 8, 2, 0, 1);
        Check.due("at the one that is not told", x.robbed(5), 256 + 8);
        stood(x, 0, 0, 18, 1, 0, 8, 2, 0, 1, 3, 1, 44);
        Check.due("nobody", x.robbed(5), 256);
        stood(x, 0, 0, 18, 1, 0, 7, 2, 0, 1, 3, 1, 44);
        Check.due("at the second one", x.robbed(1), 2);
        stood(x, 0, 0, 17, 1, 0, 7);
        Check.due("just one lake", x.robbed(1), 0);
        stood(x, 0, 0, 18, 0, 0, 17);
        Check.due("rows that can't both be", x.robbed(1), 0);
        stood(x, 3, 0, 44);
        Check.due("two bytes", x.robbed(256), 8);
        Check.due("no such barrels", x.robbed(0), -1);
        Check.due("no such barrels", x.robbed(-1), -1);
        Check.due("no such barrels", x.robbed(1000), -1);
        Check.due("999", x.robbed(999), 0);
    }

    private static void takesAllThatIsLeft() {
        LakeMarket x = Check.market(TEXT);
        stood(x, 1, 0, 0);
        Check.due("just all", x.robbed(8), 2);
        Check.due("more than all", x.robbed(999), 2);
        Check.due("not all", x.robbed(7), 0);
    }

    private static void rowsAgain() {
        LakeMarket x = Check.market(TEXT);
        stood(x, 0, 0, 16);
        Check.due("not in the next night", x.robbed(1), 0);
        Check.due("in the next night", x.robbed(2), 1);
        x.nights(1);
        // k has 18 now, 16 behind the next night, in which nobody takes of it
        Check.due("the next night is another one", x.robbed(1), 256 + 2 + 8);
        Check.due("nothing changes", x.lake(0, 0), 18);
        Check.due("nothing changes", x.has(3), 1);
        x.undo();
        Check.due("as it was", x.robbed(2), 1);
    }

    private static void gone() {
        LakeMarket x = Check.market(TEXT);
        x.nights(1);
        // m has 1 and loses it in the next night: there is nothing left to take
        stood(x, 0, 0, 16);
        Check.due("m has nothing left", x.robbed(1) & 4, 0);
        stood(x, 2, 0, 0);
        Check.due("m has nothing left", x.robbed(1), 256 + 1 + 2 + 8);
        x.nights(1);
        Check.due("m is gone", x.lake(2, 1), -1);
        Check.due("a row of a lake that is gone", stood(x, 2, 0, 0), 1);
        Check.due("it has 0", x.robbed(1), 256 + 1 + 2 + 8);
        Check.due("a row of a lake that is gone", stood(x, 2, 0, 1), 1);
        Check.due("it never has 1", x.robbed(1), 0);
    }
}
