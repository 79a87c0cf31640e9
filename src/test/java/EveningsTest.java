/** Promises 17 to 22: evenings, rain, wear. */
public final class EveningsTest {
    private static final Check check = new Check("EveningsTest");
    private static final int BAD = DuskStones.BAD, FULL = DuskStones.FULL, NONE = DuskStones.NONE;
    private static final int[] FAR = {Integer.MIN_VALUE, Integer.MAX_VALUE};

    public static void main(String[] args) {
        writtenSteps();
        lastTwenty();
        seeing();
        forgetting();
        evenings();
        oddsOfALedge();
        oddsOfABlock();
        oddsOfOthers();
        badOdds();
        wear();
        check.finish();
    }

    /** Stone 0 climbs by ledges 1 to 3 till it rolls from 4; stone 1 comes over. */
    private static DuskStones climber() {
        DuskStones x = Check.told("h9 0 14 1;h2 0 511 1;m9;m9;o1;");
        x.order(0, 0);
        x.order(1, 1);
        return x;
    }

    private static void writtenSteps() {
        DuskStones x = climber();
        check.due("nothing is written at first", x.written(0, 0), BAD);
        Check.hours(x, 5);
        int[] first = {1, 0, 3, 2, 1};
        int[] second = {2, 2, 2, 2, 1};
        for (int i = 0; i < 5; i++) {
            check.due("written(" + i + ", 0)", x.written(i, 0), first[i]);
            check.due("written(" + i + ", 1)", x.written(i, 1), second[i]);
        }
        for (int bad : new int[] {-1, 5, 20, NONE, FAR[0], FAR[1]}) {
            check.due("written(" + bad + ", 0)", x.written(bad, 0), BAD);
        }
        for (int bad : new int[] {-1, 2, NONE, FAR[0], FAR[1]}) {
            check.due("written(0, " + bad + ")", x.written(0, bad), BAD);
        }
        DuskStones y = Check.told("h9 0 0 1;h9 0 0 1;h9 0 0 1;h9 0 0 1;m9;m9;o5;");
        y.order(0, 3);
        y.order(1, 3);
        Check.hours(y, 4);
        y.undo();
        check.due("no dusk, nothing written", y.written(0, 3), BAD);
        DuskStones z = Check.told("h9 0 511 1;h9 0 511 1;h9 0 511 1;h9 0 511 1;m9;m9;m9;o3;");
        z.order(0, 3);
        z.order(1, 2);
        z.order(2, 0);
        Check.hours(z, 9);
        int[] steps = {9, 0, 9, 9};
        for (int h = 0; h < 4; h++) {
            check.due("written(0, " + h + ") of four", z.written(0, h), steps[h]);
        }
    }

    private static void lastTwenty() {
        DuskStones x = climber();
        Check.hours(x, 20);
        check.due("the first dusk of 20", x.written(19, 0), 1);
        check.due("evening() of 20", x.evening(), (1 << 20) - 1);
        x.hour();
        check.due("20 are known", x.now(3), 20);
        check.due("the second dusk of 21", x.written(19, 0), 2);
        check.due("no more than 20", x.written(20, 0), BAD);
        check.due("evening() of 21", x.evening(), (1 << 20) - 1);
    }

    private static void seeing() {
        DuskStones x = climber();
        for (int bad : new int[] {-1, 2, NONE, FAR[0], FAR[1]}) {
            check.due("saw(" + bad + ", 0)", x.saw(bad, 0), BAD);
        }
        for (int bad : new int[] {-1, 10, NONE, FAR[0], FAR[1]}) {
            check.due("saw(0, " + bad + ")", x.saw(0, bad), BAD);
        }
        check.due("nothing is SEEN yet", x.count(5), 0);
        for (int i = 1; i <= 6; i++) {
            check.due("saw() number " + i, x.saw(i % 2, i == 1 ? 9 : 0), i);
        }
        check.due("6 at most", x.saw(0, 0), FULL);
        check.due("BAD is ahead of FULL", x.saw(0, 10), BAD);
        check.due("6 are SEEN", x.count(5), 6);
    }

    private static void forgetting() {
        DuskStones x = climber();
        check.due("forget() of nothing", x.forget(), 0);
        x.saw(0, 1);
        x.saw(0, 1);
        check.due("forget()", x.forget(), 2);
        check.due("nothing is SEEN", x.count(5), 0);
        check.due("forget() again", x.forget(), 0);
        check.due("saw() behind forget()", x.saw(1, 2), 1);
    }

    private static void evenings() {
        DuskStones x = climber();
        check.due("no dusks", x.evening(), 0);
        Check.hours(x, 5);
        check.due("nothing SEEN: all", x.evening(), 31);
        x.saw(0, 1);
        check.due("stone 0 at 1", x.evening(), 17);
        x.saw(1, 2);
        check.due("and stone 1 at 2", x.evening(), 1);
        x.saw(1, 1);
        check.due("and at 1, which can't be", x.evening(), 0);
        x.forget();
        x.saw(1, 2);
        check.due("stone 1 at 2", x.evening(), 15);
        x.hour();
        check.due("a dusk later", x.evening(), 31);
    }

    private static void fraction(String when, DuskStones x, int n, int p, long upper, long lower) {
        check.due(when + ": upper", x.odds(0, n, p, 0), upper);
        check.due(when + ": lower", x.odds(0, n, p, 1), lower);
    }

    private static void oddsOfALedge() {
        for (String rain : new String[] {"", "r127;", "r1;"}) {
            DuskStones x = Check.told("h2 0 2 1;m9;o1;" + rain);
            fraction("ledge, 1 dusk", x, 1, 3, 0, 1);
            fraction("ledge, 2 dusks", x, 2, 3, 7, 10);
            fraction("ledge, 3 dusks", x, 3, 3, 91, 100);
            fraction("ledge, 4 dusks", x, 4, 3, 973, 1000);
            fraction("ledge, least terms", x, 2, 5, 1, 2);
            fraction("ledge, least terms of 3", x, 3, 4, 21, 25);
            fraction("ledge, never rain", x, 2, 0, 1, 1);
            fraction("ledge, always rain", x, 4, 10, 0, 1);
        }
    }

    private static void oddsOfABlock() {
        DuskStones x = Check.told("h2 0 0 1;h5 0 2 1;j0 1 1;m9;o2;");
        x.order(0, 1);
        x.hour();
        x.order(0, NONE);
        x.hour();
        check.due("the other stone is on its ledge", x.stone(1, 0), 1);
        fraction("block, 1 dusk", x, 1, 4, 0, 1);
        fraction("block, 2 dusks", x, 2, 4, 2, 5);
        fraction("block, 3 dusks", x, 3, 4, 16, 25);
        fraction("block, never rain", x, 4, 0, 0, 1);
    }

    private static void oddsOfOthers() {
        fraction("today", Check.told("h2 0 0 1;m9;o2;"), 1, 7, 1, 1);
        fraction("no men", Check.told("h2 0 511 1;"), 4, 0, 0, 1);
        DuskStones x = Check.told("h2 0 0 1;m9;o2;");
        x.order(0, 0);
        Check.hours(x, 2);
        fraction("OVER", x, 1, 10, 1, 1);
        fraction("OVER, 4 dusks", x, 4, 6, 1, 1);
        fraction("no ledge at 3", Check.told("h4 0 6 1;m9;o1;"), 4, 2, 0, 1);
        fraction("two ledges", Check.told("h3 0 6 1;m9;o1;"), 3, 2, 16, 25);
        // Two dry dusks, or a wet one ahead of them: 16/25, and 1/5 of that.
        fraction("two ledges, 4 dusks", Check.told("h3 0 6 1;m9;o1;"), 4, 2, 96, 125);
    }

    private static void badOdds() {
        DuskStones x = Check.told("h2 0 0 1;m9;o2;");
        for (int bad : new int[] {-1, 1, NONE, FAR[0], FAR[1]}) {
            check.due("odds(" + bad + ", 1, 0, 0)", x.odds(bad, 1, 0, 0), BAD);
        }
        for (int bad : new int[] {-1, 0, 5, FAR[0], FAR[1]}) {
            check.due("odds(0, " + bad + ", 0, 0)", x.odds(0, bad, 0, 0), BAD);
        }
        for (int bad : new int[] {-1, 11, FAR[0], FAR[1]}) {
            check.due("odds(0, 1, " + bad + ", 0)", x.odds(0, 1, bad, 0), BAD);
        }
        for (int bad : new int[] {-1, 2, FAR[0], FAR[1]}) {
            check.due("odds(0, 1, 0, " + bad + ")", x.odds(0, 1, 0, bad), BAD);
        }
    }

    private static void wear() {
        DuskStones x = Check.told("h2 0 0 9;h5 0 0 1;h9 0 0 3;m9;o3;");
        int[] times = {64, 32, 22, 16, 13, 11, 10, 8, 8};
        for (int step = 1; step <= 9; step++) {
            check.due("wear(0, " + step + ")", x.wear(0, step), times[step - 1]);
            check.due("wear(1, " + step + ")", x.wear(1, step), 0);
        }
        x.order(0, 2);
        int[] left = {16, 13, 10, 7, 4, 1, 0, 0};
        for (int day = 0; day < left.length; day++) {
            check.due("wear(2, 1) on day " + day, x.wear(2, 1), left[day]);
            check.due("wear(2, 3) on day " + day, x.wear(2, 3), (left[day] + 2) / 3);
            Check.hours(x, 3);
        }
        for (int bad : new int[] {-1, 3, NONE, FAR[0], FAR[1]}) {
            check.due("wear(" + bad + ", 1)", x.wear(bad, 1), BAD);
        }
        for (int bad : new int[] {-1, 0, 10, NONE, FAR[0], FAR[1]}) {
            check.due("wear(0, " + bad + ")", x.wear(0, bad), BAD);
        }
    }
}
