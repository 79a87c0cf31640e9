/** The edges of evenings, rain and wear: the last sentences of part 3 of the terms, promises 17 to 22. */
public final class EveningEdgesTest {
    private static final Check check = new Check("EveningEdgesTest");
    private static final int BAD = DuskStones.BAD, FULL = DuskStones.FULL, NONE = DuskStones.NONE;
    private static final int LEAST = Integer.MIN_VALUE, MOST = Integer.MAX_VALUE;

    public static void main(String[] args) {
        writtenAsked();
        writtenOfFour();
        sawAtMost();
        sawSteps();
        sawAsked();
        forgetAll();
        eveningOfNothingSeen();
        eveningOfAll();
        eveningBits();
        eveningOfTwenty();
        oddsByDusks();
        oddsByTwoLedges();
        oddsNeverAndAlways();
        oddsOfRainThatHelps();
        oddsFromNow();
        oddsOver();
        oddsAsked();
        wearTimes();
        wearBehindRolls();
        wearAsked();
        check.finish();
    }

    /** Stone 0 is at step 1 to 6 by its ledges and rolls from 7; stone 1 comes over in two days. */
    private static DuskStones climber(int dusks) {
        DuskStones x = Check.told("h9 0 126 1;h2 0 2 1;m9;m9;o1;");
        x.order(0, 0);
        x.order(1, 1);
        Check.hours(x, dusks);
        return x;
    }

    private static void writtenAsked() {
        check.says("A step that is WRITTEN DOWN (i: 0 the latest DUSK). BAD.");
        for (int dusks : new int[] {0, 1, 2, 19, 20, 21, 99}) {
            DuskStones x = climber(dusks);
            int known = Math.min(dusks, 20);
            for (int i = 0; i < known; i++) {
                check.due("written(" + i + ", 0) of " + dusks, x.written(i, 0), (dusks - i) % 7);
                check.due("written(" + i + ", 1) of " + dusks, x.written(i, 1), Math.min(dusks - i, 2));
            }
            for (int bad : new int[] {-1, known, known + 1, 20, 21, NONE, LEAST, MOST}) {
                check.due("written(" + bad + ", 0) of " + dusks, x.written(bad, 0), BAD);
            }
            for (int bad : new int[] {-1, 2, NONE, LEAST, MOST}) {
                check.due("written(0, " + bad + ") of " + dusks, x.written(0, bad), BAD);
            }
        }
    }

    private static void writtenOfFour() {
        check.says("at which step each STONE is then");
        DuskStones x = Check.told("h9 0 510 1;h8 0 510 1;h9 0 510 1;h9 0 510 1;m9;m9;m9;o4;");
        x.order(0, 3);
        x.order(1, 1);
        x.order(2, 2);
        Check.hours(x, 8);
        x.order(2, NONE);
        Check.hours(x, 1);
        check.due("an hour is no dusk", x.written(0, 3), 8);
        Check.hours(x, 3);
        int[] steps = {0, 8, 8, 9};
        for (int h = 0; h < 4; h++) {
            check.due("stone " + h, x.written(0, h), steps[h]);
        }
        check.due("no stone 4", x.written(0, 4), BAD);
    }

    private static void sawAtMost() {
        check.says("that agree with all that is SEEN (6 at most)");
        DuskStones x = climber(3);
        for (int n = 1; n <= 6; n++) {
            check.due("SEEN number " + n, x.saw(0, 1), n);
            check.due("count(5)", x.count(5), n);
        }
        check.due("EVENING of the first dusk", x.evening(), 4);
        check.says("SEEN: how much there is. BAD; FULL.");
        check.due("number 7", x.saw(0, 1), FULL);
        check.due("number 7, another", x.saw(1, 0), FULL);
        check.due("number 7, no such hill: BAD is ahead of FULL", x.saw(2, 0), BAD);
        check.due("number 7, no such step", x.saw(0, 10), BAD);
        check.due("6 are SEEN", x.count(5), 6);
        check.due("what was refused is not asked", x.evening(), 4);
    }

    private static void sawSteps() {
        check.says("a HILL's STONE was at a step (0 .. 9) then");
        for (int step = 0; step <= 9; step++) {
            DuskStones x = Check.told("h9 0 510 1;m9;o1;");
            x.hour();
            x.order(0, 0);
            Check.hours(x, 9);
            check.due("saw(0, " + step + ")", x.saw(0, step), 1);
            check.due("the dusk of step " + step, x.evening(), 1 << (9 - step));
        }
        DuskStones y = Check.told("h2 0 2 1;m9;o1;");
        y.order(0, 0);
        Check.hours(y, 3);
        check.due("a step above HIGH may be told", y.saw(0, 3), 1);
        check.due("but no stone was there", y.evening(), 0);
    }

    private static void sawAsked() {
        check.says("(0 .. 9)");
        DuskStones x = Check.told("h9 0 0 1;".repeat(4));
        for (int bad : new int[] {-1, 4, NONE, LEAST, MOST}) {
            check.due("saw(" + bad + ", 0)", x.saw(bad, 0), BAD);
        }
        for (int bad : new int[] {-1, 10, NONE, LEAST, MOST}) {
            check.due("saw(3, " + bad + ")", x.saw(3, bad), BAD);
        }
        check.due("nothing is SEEN", x.count(5), 0);
        check.due("saw(3, 9)", x.saw(3, 9), 1);
        check.due("saw(3, 9) again", x.saw(3, 9), 2);
    }

    private static void forgetAll() {
        check.says("Nothing was SEEN: how much there was.");
        DuskStones x = climber(2);
        check.due("forget() of none", x.forget(), 0);
        for (int n = 1; n <= 6; n++) {
            x.forget();
            for (int i = 0; i < n; i++) {
                x.saw(0, 9);
            }
            check.due("nothing agrees", x.evening(), 0);
            check.due("forget() of " + n, x.forget(), n);
            check.due("count(5) then", x.count(5), 0);
            check.due("all agree", x.evening(), 3);
        }
        check.due("there is room again", x.saw(0, 2), 1);
        check.due("only that is asked", x.evening(), 1);
    }

    private static void eveningOfNothingSeen() {
        check.says("EVENING: DUSKS WRITTEN DOWN (bits, 0 the latest)");
        for (int dusks = 0; dusks <= 22; dusks++) {
            DuskStones x = climber(dusks);
            check.due("nothing SEEN, dusks: " + dusks, x.evening(), (1 << Math.min(dusks, 20)) - 1);
        }
        DuskStones y = new DuskStones();
        Check.hours(y, 4);
        check.due("a dusk without HILLS", y.evening(), 1);
    }

    private static void eveningOfAll() {
        check.says("that agree with all that is SEEN");
        DuskStones x = climber(9);
        x.saw(0, 2);
        check.due("stone 0 at 2: dusks 2 and 9", x.evening(), 1 << 7 | 1);
        x.saw(1, 2);
        check.due("and stone 1 at 2", x.evening(), 1 << 7 | 1);
        x.forget();
        x.saw(1, 1);
        check.due("stone 1 at 1: dusk 1", x.evening(), 1 << 8);
        x.saw(0, 1);
        check.due("and stone 0 at 1", x.evening(), 1 << 8);
        x.saw(0, 2);
        check.due("and stone 0 at 2 too", x.evening(), 0);
    }

    private static void eveningBits() {
        check.says("EVENING, as bits.");
        DuskStones x = climber(0);
        x.saw(0, 0);
        check.due("no dusk agrees where none is", x.evening(), 0);
        Check.hours(x, 6);
        check.due("no dusk at 0 yet", x.evening(), 0);
        x.hour();
        check.due("the latest", x.evening(), 1);
        x.undo();
        check.due("taken back", x.evening(), 0);
        x.hour();
        x.hour();
        check.due("a dusk later", x.evening(), 2);
    }

    private static void eveningOfTwenty() {
        check.says("(the last 20 DUSKS)");
        DuskStones x = Check.told("h9 0 2 1;m9;o1;");
        Check.push(x, 0, 0, 1);
        x.saw(0, 1);
        x.hour();
        check.due("two dusks at 1", x.evening(), 3);
        x.forget();
        x.order(0, 0);
        x.hour();
        x.order(0, NONE);
        x.saw(0, 0);
        Check.hours(x, 17);
        check.due("18 at 0, behind them two", x.evening(), (1 << 18) - 1);
        x.forget();
        x.saw(0, 1);
        check.due("bits 18 and 19", x.evening(), 1 << 18 | 1 << 19);
        x.hour();
        check.due("bit 19 alone", x.evening(), 1 << 19);
        x.hour();
        check.due("older ones are not known", x.evening(), 0);
    }

    private static long common(long a, long b) {
        return b == 0 ? a : common(b, a % b);
    }

    private static void fraction(String when, DuskStones x, int n, int p, long upper, long lower) {
        long by = common(lower, upper);
        check.due(when + ", n = " + n + ", p = " + p + ": upper", x.odds(0, n, p, 0), upper / by);
        check.due(when + ", n = " + n + ", p = " + p + ": lower", x.odds(0, n, p, 1), lower / by);
    }

    private static void oddsByDusks() {
        check.says("ODDS of a STONE by n (1 .. 4) DUSKS, p (0 .. 10)");
        DuskStones x = Check.told("h2 0 2 1;m9;o1;");
        for (int p = 0; p <= 10; p++) {
            // It is over by the dusk behind the first dry one.
            fraction("a ledge at 1", x, 1, p, 0, 1);
            fraction("a ledge at 1", x, 2, p, 10 - p, 10);
            fraction("a ledge at 1", x, 3, p, 100 - p * p, 100);
            fraction("a ledge at 1", x, 4, p, 1000 - p * p * p, 1000);
        }
    }

    private static void oddsByTwoLedges() {
        check.says("ODDS: upper (what = 0), lower number (1), in least terms. BAD.");
        DuskStones x = Check.told("h3 0 6 1;m9;o1;");
        DuskStones y = Check.told("h4 0 14 1;m9;o1;");
        DuskStones z = Check.told("h5 0 30 1;m9;o1;");
        for (int p = 0; p <= 10; p++) {
            int dry = 10 - p;
            fraction("ledges at 1 and 2", x, 2, p, 0, 1);
            fraction("ledges at 1 and 2", x, 3, p, dry * dry, 100);
            fraction("ledges at 1 and 2", x, 4, p, dry * dry * (10 + p), 1000);
            fraction("ledges at 1 to 3", y, 3, p, 0, 1);
            fraction("ledges at 1 to 3", y, 4, p, dry * dry * dry, 1000);
            fraction("ledges at 1 to 4", z, 4, p, 0, 1);
        }
    }

    private static void oddsNeverAndAlways() {
        check.says("each DUSK it RAINS by p of 10 (what is told is not asked)");
        for (int rain : new int[] {0, 1, 126, 127}) {
            DuskStones x = Check.told("h2 0 2 1;m9;o1;r" + rain + ";");
            fraction("never, r" + rain, x, 2, 0, 1, 1);
            fraction("always, r" + rain, x, 4, 10, 0, 1);
            fraction("half, r" + rain, x, 2, 5, 1, 2);
        }
    }

    private static void oddsOfRainThatHelps() {
        check.says("that it is OVER behind n DUSKS: a fraction");
        DuskStones x = Check.told("h2 0 0 1;h9 0 2 1;j0 1 1;m9;o2;");
        Check.push(x, 0, 1, 1);
        x.hour();
        check.due("stone 1 is on a ledge and blocks", x.blocks(0), 2);
        for (int p = 0; p <= 10; p++) {
            // It is over by the dusk behind the first wet one.
            int dry = 10 - p;
            fraction("blocked", x, 1, p, 0, 1);
            fraction("blocked", x, 2, p, p, 10);
            fraction("blocked", x, 3, p, 100 - dry * dry, 100);
            fraction("blocked", x, 4, p, 1000 - dry * dry * dry, 1000);
        }
    }

    private static void oddsFromNow() {
        check.says("all MEN are ordered to it from NOW on");
        DuskStones x = Check.told("h2 0 0 9;h9 5 0 9;m9;m3;o3;");
        fraction("no orders", x, 1, 10, 1, 1);
        x.order(0, 1);
        x.order(1, 1);
        fraction("ordered elsewhere", x, 1, 10, 1, 1);
        x.hour();
        // 8 and 2 make 10, then 7 and 1 only 8: today it comes to step 1, and rolls.
        fraction("tired today", x, 1, 10, 0, 1);
        fraction("rested tomorrow", x, 2, 10, 1, 1);
        x.hour();
        fraction("the last hour", x, 1, 0, 0, 1);
    }

    private static void oddsOver() {
        check.says("OVER behind n DUSKS");
        DuskStones x = Check.told("h2 0 0 1;m9;o2;");
        for (int p = 0; p <= 10; p += 5) {
            fraction("OVER today", x, 1, p, 1, 1);
            fraction("OVER today", x, 4, p, 1, 1);
        }
        x.order(0, 0);
        Check.hours(x, 2);
        fraction("OVER already", x, 1, 10, 1, 1);
        fraction("OVER already", x, 4, 0, 1, 1);
        fraction("no men", Check.told("h2 0 510 1;"), 4, 0, 0, 1);
        fraction("too high for a day", Check.told("h3 0 0 1;m9;o2;"), 4, 0, 0, 1);
    }

    private static void oddsAsked() {
        check.says("n (1 .. 4) DUSKS, p (0 .. 10)");
        DuskStones x = Check.told("h2 0 0 1;".repeat(4) + "m9;o2;");
        check.due("odds(3, 4, 10, 1)", x.odds(3, 4, 10, 1), 1);
        for (int bad : new int[] {-1, 4, NONE, LEAST, MOST}) {
            check.due("odds(" + bad + ", 1, 0, 0)", x.odds(bad, 1, 0, 0), BAD);
        }
        for (int bad : new int[] {-1, 0, 5, NONE, LEAST, MOST}) {
            check.due("odds(0, " + bad + ", 0, 0)", x.odds(0, bad, 0, 0), BAD);
        }
        for (int bad : new int[] {-1, 11, NONE, LEAST, MOST}) {
            check.due("odds(0, 1, " + bad + ", 0)", x.odds(0, 1, bad, 0), BAD);
        }
        for (int bad : new int[] {-1, 2, NONE, LEAST, MOST}) {
            check.due("odds(0, 1, 0, " + bad + ")", x.odds(0, 1, 0, bad), BAD);
        }
    }

    /** How many times, by trying. */
    private static int times(int size, int rolled, int step) {
        int times = 0;
        while (size - rolled / 8 > 1) {
            rolled += step;
            times++;
        }
        return times;
    }

    private static void wearTimes() {
        check.says("WEAR of a STONE: how many times it must ROLL from a step (1 .. 9) till its SIZE NOW is 1; 0, if it is.");
        for (int size = 1; size <= 9; size++) {
            DuskStones x = Check.told("h2 0 0 " + size + ";");
            for (int step = 1; step <= 9; step++) {
                check.due("SIZE " + size + ", step " + step, x.wear(0, step), times(size, 0, step));
            }
        }
        DuskStones y = Check.told("h2 0 0 9;");
        check.due("64 by 1", y.wear(0, 1), 64);
        check.due("64 by 8", y.wear(0, 8), 8);
        check.due("64 by 9", y.wear(0, 9), 8);
        check.due("64 by 7", y.wear(0, 7), 10);
    }

    private static void wearBehindRolls() {
        check.says("till its SIZE NOW is 1; 0, if it is");
        DuskStones x = Check.told("h9 0 0 3;m9;o1;");
        x.order(0, 0);
        for (int rolled = 0; rolled <= 20; rolled++) {
            for (int step = 1; step <= 9; step++) {
                check.due("ROLLED " + rolled + ", step " + step, x.wear(0, step), times(3, rolled, step));
            }
            x.hour();
        }
        check.due("none is needed", x.wear(0, 9), 0);
    }

    private static void wearAsked() {
        check.says("`int wear(int h, int step)`: WEAR. BAD.");
        DuskStones x = Check.told("h2 0 0 2;".repeat(4));
        check.due("wear(3, 9)", x.wear(3, 9), 1);
        for (int bad : new int[] {-1, 4, NONE, LEAST, MOST}) {
            check.due("wear(" + bad + ", 1)", x.wear(bad, 1), BAD);
        }
        for (int bad : new int[] {-1, 0, 10, NONE, LEAST, MOST}) {
            check.due("wear(0, " + bad + ")", x.wear(0, bad), BAD);
        }
    }
}
