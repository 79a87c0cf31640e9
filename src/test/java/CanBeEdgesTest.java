/** The edges of what can be: the first sentences of part 3 of the terms, promises 12 to 16. */
public final class CanBeEdgesTest {
    private static final Check check = new Check("CanBeEdgesTest");
    private static final int BAD = DuskStones.BAD, STATE = DuskStones.STATE, NONE = DuskStones.NONE;
    private static final int LEAST = Integer.MIN_VALUE, MOST = Integer.MAX_VALUE;
    private static final int NOT_SO_MANY = -5;

    public static void main(String[] args) {
        highestOfHoursLeft();
        highestByAnyOrders();
        highestWhileOthersStay();
        highestAheadOfDusk();
        highestFirstRow();
        highestOver();
        highestOfNobody();
        highestByRest();
        highestToTheTop();
        highestAsked();
        daysAtLeast();
        daysAtMost();
        daysNever();
        daysOver();
        daysIfAllPush();
        daysByTheWeek();
        daysAsked();
        littleAtMost();
        littleAtLeast();
        littleEachHourLeft();
        littleHoursLeft();
        littleBlocked();
        littleAsked();
        crewAtLeast();
        crewFewest();
        crewByForce();
        crewAsked();
        blocksNow();
        blocksOver();
        blocksAsked();
        check.finish();
    }

    /** HIGHEST of stone 0, the men of each hour left, and no hours behind those. */
    private static void climbs(String when, DuskStones x, int step, int... row) {
        check.due(when + ": HIGHEST", x.highest(0, NONE), step);
        for (int i = 0; i < row.length; i++) {
            check.due(when + ": men of hour " + i, x.highest(0, i), row[i]);
        }
        for (int i : new int[] {row.length, row.length + 1, 6, 7, MOST}) {
            check.due(when + ": no hour " + i, x.highest(0, i), NOT_SO_MANY);
        }
    }

    private static void highestOfHoursLeft() {
        check.says("HIGHEST of a STONE in the HOURS left today");
        check.says("MEN of HOUR i from now on (-5: not so many)");
        for (int hours = 1; hours <= 6; hours++) {
            DuskStones x = Check.told("h9 0 0 1;m9;m9;o" + hours + ";");
            for (int left = hours; left >= 1; left--) {
                int[] row = new int[left];
                java.util.Arrays.fill(row, 1);
                climbs(left + " left of " + hours, x, left, row);
                x.hour();
            }
            check.due("a new day of " + hours, x.highest(0, NONE), hours);
        }
    }

    private static void highestByAnyOrders() {
        check.says("each MAN is ordered there, or to none, anew each HOUR");
        DuskStones x = Check.told("h9 0 0 5;h9 0 0 9;m5;m5;o4;");
        climbs("no orders", x, 4, 1, 2, 1, 2);
        x.order(0, 1);
        x.order(1, 1);
        climbs("ordered elsewhere", x, 4, 1, 2, 1, 2);
        x.order(0, 0);
        x.order(1, 0);
        climbs("ordered there", x, 4, 1, 2, 1, 2);
        climbs("one who must rest each other hour", Check.told("h9 0 0 5;m5;o4;"), 2, 0, 1, 0, 1);
    }

    private static void highestWhileOthersStay() {
        check.says("other STONES stay");
        DuskStones x = Check.told("h9 0 0 1;h9 0 0 1;j0 1 1;m9;m9;o6;");
        x.order(1, 1);
        x.hour();
        climbs("one at step 1, though it is pushed", x, 0, 0, 0, 0, 0, 0);
        x.hour();
        climbs("one at step 2", x, 1, 0, 0, 0, 1);
        x.hour();
        climbs("one at step 3", x, 2, 0, 1, 1);
        x.hour();
        climbs("one at step 4, two hours left", x, 2, 1, 1);
    }

    private static void highestAheadOfDusk() {
        check.says("the highest step it can be at ahead of DUSK");
        climbs("no ledges, rain", Check.told("h9 0 0 1;m9;o3;r127;"), 3, 1, 1, 1);
        climbs("a ledge at 1 alone", Check.told("h9 0 2 1;m9;o3;"), 3, 1, 1, 1);
        DuskStones x = Check.told("h9 0 8 1;m9;o3;");
        x.order(0, 0);
        Check.hours(x, 3);
        climbs("from a ledge at 3", x, 6, 1, 1, 1);
    }

    private static void highestFirstRow() {
        check.says("the first row by which it is (HOUR by HOUR the lesser number)");
        climbs("2 of 3 hours", Check.told("h9 0 0 1;m2;o3;"), 2, 0, 1, 1);
        climbs("the first hour must be", Check.told("h9 0 0 2;m2;o3;"), 2, 1, 0, 1);
        climbs("two are less than the third", Check.told("h9 0 0 4;m2;m2;m4;o1;"), 1, 3);
        climbs("each could, the first does", Check.told("h9 0 0 3;m3;m3;m3;o1;"), 1, 1);
        climbs("the third is the only one", Check.told("h9 0 0 4;m1;m2;m4;o1;"), 1, 4);
        climbs("all three", Check.told("h9 0 0 7;m1;m2;m4;o1;"), 1, 7);
        climbs("not even all three", Check.told("h9 0 0 8;m1;m2;m4;o1;"), 0, 0);
    }

    private static void highestOver() {
        check.says("(OVER: its step HIGH, nobody.)");
        for (int high = 2; high <= 5; high++) {
            DuskStones x = Check.told("h" + high + " 0 0 1;m9;o6;");
            x.order(0, 0);
            Check.hours(x, high);
            climbs("OVER at " + high, x, high, new int[6 - high]);
        }
    }

    private static void highestOfNobody() {
        check.says("the highest step it can be at");
        climbs("no men", Check.told("h9 0 0 1;o2;"), 0, 0, 0);
        DuskStones x = Check.told("h9 0 510 3;m3;o2;");
        x.order(0, 0);
        x.hour();
        climbs("2 of 3, the last hour", x, 1, 0);
        x.hour();
        climbs("rested, from step 1", x, 2, 0, 1);
        for (int i = 0; i < 3; i++) {
            DuskStones y = Check.told("h9 0 0 1;h9 5 0 9;m9;o3;");
            check.due("a light stone, hour " + i, y.highest(0, i), 1);
            check.due("a heavy one asked behind it, hour " + i, y.highest(1, i), 0);
        }
    }

    private static void highestByRest() {
        check.says("any other one 1 more (his FORCE at most)");
        DuskStones x = Check.told("h9 0 0 3;h9 5 0 9;m3;o6;");
        x.order(0, 1);
        Check.hours(x, 2);
        check.due("he is tired", x.man(0, 1), 1);
        climbs("two hours of rest for a push", x, 1, 0, 0, 0, 1);
        x.hour();
        climbs("he is worn out", x, 0, 0, 0, 0);
        climbs("he has his FORCE at most", Check.told("h9 0 0 2;m2;o2;"), 1, 0, 1);
    }

    private static void highestToTheTop() {
        check.says("the highest step it can be at ahead of DUSK; the MEN (bits) of HOUR i");
        climbs("HIGH 2 of 6 hours", Check.told("h2 0 0 1;m9;o6;"), 2, 0, 0, 0, 0, 1, 1);
        climbs("HIGH 6 of 6 hours", Check.told("h6 0 0 1;m9;o6;"), 6, 1, 1, 1, 1, 1, 1);
        climbs("HIGH 7 of 6 hours", Check.told("h7 0 0 1;m9;o6;"), 6, 1, 1, 1, 1, 1, 1);
    }

    private static void highestAsked() {
        check.says("HIGHEST: the step (i = NONE), MEN of HOUR i from now on (-5: not so many). BAD.");
        DuskStones x = Check.told("h9 0 0 1;".repeat(4) + "m9;o3;");
        check.due("highest(3, NONE)", x.highest(3, NONE), 3);
        check.due("highest(3, 2)", x.highest(3, 2), 1);
        check.due("highest(3, 3)", x.highest(3, 3), NOT_SO_MANY);
        for (int bad : new int[] {-1, 4, NONE, LEAST, MOST}) {
            for (int i : new int[] {NONE, 0, 3, MOST}) {
                check.due("highest(" + bad + ", " + i + ")", x.highest(bad, i), BAD);
            }
        }
        for (int bad : new int[] {-1, -2, -5, -8, -10, LEAST}) {
            check.due("highest(0, " + bad + ")", x.highest(0, bad), BAD);
        }
    }

    private static void daysAtLeast() {
        check.says("behind how many DUSKS (1 .. 60) it is OVER");
        for (int high = 2; high <= 6; high++) {
            DuskStones x = Check.told("h" + high + " 0 0 1;m9;o" + high + ";");
            check.due("today, in the last hour of " + high, x.days(0), 1);
            x.hour();
            check.due("an hour was lost, tomorrow then", x.days(0), 2);
        }
        for (int high = 2; high <= 9; high++) {
            check.due("a step a day to " + high, Check.told("h" + high + " 0 510 1;m9;o1;").days(0), high);
        }
    }

    /**
     * No land comes to 60: all that matters of slopes, forces and hours was tried once with all heights, ledges,
     * rains, weekdays, steps and wear to begin with; 52 is the longest without a block, and a block ends within
     * 7 dusks. So 60 itself can't be seen from outside. This is the longest that was found.
     */
    private static void daysAtMost() {
        check.says("behind how many DUSKS (1 .. 60) it is OVER; 0, if it is; NONE.");
        DuskStones x = Check.told("h9 0 286 9;h2 0 2 1;j0 1 1;m4;m3;m2;o4;r1;");
        Check.hours(x, 4);
        Check.push(x, 0, 1, 1);
        check.due("stone 1 blocks stone 0", x.blocks(0), 2);
        check.due("DAYS", x.days(0), 54);
        for (int m = 0; m < 3; m++) {
            x.order(m, 0);
        }
        Check.hours(x, 3 + 4 * 52);
        check.due("53 dusks later", x.now(0), 54);
        check.due("not yet OVER", x.stone(0, 3), 0);
        check.due("DAYS then", x.days(0), 1);
        Check.hours(x, 4);
        check.due("OVER behind 54 dusks", x.stone(0, 3), 1);
        check.due("DAYS of one that is OVER", x.days(0), 0);
    }

    private static void daysNever() {
        check.says("NONE. LITTLE");
        check.due("no men", Check.told("h2 0 510 1;").days(0), NONE);
        check.due("a step too high for a day, no ledge", Check.told("h3 0 0 1;m9;o2;").days(0), NONE);
        check.due("a step less", Check.told("h2 0 0 1;m9;o2;").days(0), 1);
        check.due("too heavy by 1", Check.told("h2 5 510 9;m9;m4;").days(0), NONE);
        check.due("just not too heavy", Check.told("h2 5 510 9;m9;m5;o1;").days(0), 2);
        check.due("ledges, but rain each day", Check.told("h3 0 510 1;m9;o2;r127;").days(0), NONE);
        check.due("ledges, one dry day", Check.told("h3 0 510 1;m9;o2;r63;").days(0), 8);
        check.due("a ledge at the wrong step", Check.told("h3 0 2 1;m9;o2;").days(0), NONE);
        check.due("a ledge at step 0", Check.told("h3 0 1 1;m9;o2;").days(0), NONE);
        check.due("a ledge at HIGH", Check.told("h3 0 8 1;m9;o2;").days(0), NONE);
    }

    private static void daysOver() {
        check.says("0, if it is");
        DuskStones x = Check.told("h2 0 0 1;m9;o3;");
        x.order(0, 0);
        x.hour();
        check.due("a step below HIGH", x.days(0), 1);
        x.hour();
        check.due("OVER", x.days(0), 0);
        x.hour();
        check.due("OVER, behind dusk", x.days(0), 0);
    }

    private static void daysIfAllPush() {
        check.says("DAYS to the top of a STONE, if all MEN are ordered to it from NOW on, nothing else");
        DuskStones x = Check.told("h2 0 0 9;h9 0 510 1;j0 1 1;m9;m3;o2;");
        check.due("nobody is ordered there yet", x.days(0), 1);
        x.order(0, 1);
        x.order(1, 1);
        check.due("all are ordered elsewhere", x.days(0), 1);
        x.hour();
        check.due("stone 1, pushed no more, blocks for good", x.days(0), NONE);
        x.hour();
        check.due("stone 1 is at step 2, step 1 is free", x.blocks(0), 0);
        check.due("it blocks the last step", x.days(0), NONE);
    }

    private static void daysByTheWeek() {
        check.says("does not RAIN that DAY (DAY by 7, what is left over)");
        DuskStones x = Check.told("h2 0 2 1;m9;o1;r64;");
        int[] days = {2, 2, 2, 2, 2, 2, 3};
        for (int day = 0; day < 98; day++) {
            check.due("DAYS on day " + day, x.days(0), days[day % 7]);
            x.hour();
        }
        check.due("DAYS on day 98", x.days(0), 2);
        x.hour();
        check.due("DAYS on day 99, as on any other", x.days(0), 2);
    }

    private static void daysAsked() {
        check.says("DAYS to the top; NONE. BAD.");
        DuskStones x = Check.told("h2 0 0 1;h2 0 0 1;h2 0 0 1;h3 0 0 1;m9;o2;");
        check.due("days(0)", x.days(0), 1);
        check.due("days(3)", x.days(3), NONE);
        for (int bad : new int[] {-1, 4, NONE, LEAST, MOST}) {
            check.due("days(" + bad + ")", x.days(bad), BAD);
        }
    }

    private static void littleAtMost() {
        check.says("LITTLE: the greatest SIZE NOW (1 .. 9) at which it would be OVER today");
        check.due("the second push has 13 of SLOPE 5", Check.told("h2 5 0 1;m9;m6;o2;").little(0), 8);
        check.due("the second push has 14", Check.told("h2 5 0 1;m9;m7;o2;").little(0), 9);
        check.due("the second push has 15", Check.told("h2 5 0 1;m9;m8;o2;").little(0), 9);
        check.due("the second push has 24", Check.told("h2 0 0 1;m9;m9;m9;o2;").little(0), 9);
    }

    private static void littleAtLeast() {
        check.says("at which it would be OVER today, if all MEN push it each HOUR left; NONE.");
        for (int force = 1; force <= 9; force++) {
            DuskStones x = Check.told("h2 0 0 9;m" + force + ";o2;");
            check.due("one of FORCE " + force, x.little(0), force == 1 ? NONE : force - 1);
        }
        check.due("the second push has 6 of SLOPE 5", Check.told("h2 5 0 9;m4;m4;o2;").little(0), 1);
        check.due("the second push has 5", Check.told("h2 5 0 9;m4;m3;o2;").little(0), NONE);
        check.due("no men", Check.told("h2 0 0 1;o2;").little(0), NONE);
    }

    private static void littleEachHourLeft() {
        check.says("if all MEN push it each HOUR left");
        DuskStones x = Check.told("h9 0 510 1;h9 5 0 9;m9;m2;m1;o6;");
        x.order(0, 0);
        Check.hours(x, 8);
        check.due("a step is left", x.stone(0, 0), 8);
        check.due("7, 2 and 1 for it", x.little(0), 9);
        x.order(0, 1);
        Check.hours(x, 2);
        check.due("5, 2 and 1 for it", x.little(0), 8);
        x.hour();
        check.due("4, 2 and 1 for it, the last hour", x.little(0), 7);
    }

    private static void littleHoursLeft() {
        check.says("OVER today");
        for (int high = 2; high <= 6; high++) {
            DuskStones x = Check.told("h" + high + " 0 0 9;m9;o6;");
            for (int left = 6; left >= 1; left--) {
                check.due("HIGH " + high + ", " + left + " hours left", x.little(0), left < high ? NONE : 10 - high);
                x.hour();
            }
        }
        check.due("HIGH 7 of 6 hours", Check.told("h7 0 0 1;m9;m9;o6;").little(0), NONE);
        check.due("men who are worn out make 0", Check.told("h6 0 0 1;m1;m9;o6;").little(0), 4);
        check.due("men who are all worn out", Check.told("h6 0 0 1;m5;m5;m5;o6;").little(0), NONE);
        check.due("men who are nearly worn out", Check.told("h6 0 0 1;m6;m5;m5;o6;").little(0), 1);
    }

    private static void littleBlocked() {
        check.says("LITTLE: the greatest SIZE NOW (1 .. 9) at which it would be OVER today, if all MEN push it each HOUR left");
        DuskStones x = Check.told("h3 0 0 1;h9 0 0 1;j0 1 1;m9;m9;o6;");
        int[] due = {9, NONE, NONE, NONE};
        x.order(0, 1);
        for (int step = 0; step < due.length; step++) {
            check.due("stone 1 is at step " + step, x.little(0), due[step]);
            x.hour();
        }
        check.due("too few hours", x.little(0), NONE);
        DuskStones y = Check.told("h2 0 0 1;h9 0 0 1;j0 1 1;m9;m9;o6;");
        y.order(0, 1);
        Check.hours(y, 3);
        check.due("stone 1 is at step 3, above HIGH", y.little(0), 9);
    }

    private static void littleAsked() {
        check.says("LITTLE; NONE. BAD; STATE: it is OVER.");
        DuskStones x = Check.told("h2 0 0 1;".repeat(4) + "m9;o3;");
        x.order(0, 3);
        x.hour();
        check.due("a step below HIGH", x.little(3), 8);
        x.hour();
        check.due("OVER", x.little(3), STATE);
        check.due("another, too few hours", x.little(0), NONE);
        for (int bad : new int[] {-1, 4, NONE, LEAST, MOST}) {
            check.due("little(" + bad + ")", x.little(bad), BAD);
        }
        x.hour();
        check.due("OVER, behind dusk", x.little(3), STATE);
    }

    private static void crewAtLeast() {
        check.says("CREW of a HILL: the fewest MEN whose FORCES make SIZE NOW and SLOPE at least");
        for (int size = 1; size <= 9; size++) {
            for (int slope = 0; slope <= 5; slope++) {
                DuskStones x = Check.told("h2 " + slope + " 0 " + size + ";m3;m4;m5;");
                int[] due = {0, 1, 1, 1, 2, 4, 3, 3, 5, 6, 7, 7, 7, NONE, NONE};
                check.due("3, 4 and 5 of " + (size + slope), x.crew(0), due[size + slope]);
            }
        }
        check.due("no men", Check.told("h2 0 0 1;").crew(0), NONE);
        check.due("one of 1", Check.told("h2 0 0 1;m1;").crew(0), 1);
        check.due("one of 2", Check.told("h2 0 0 2;m1;").crew(0), NONE);
    }

    private static void crewFewest() {
        check.says("(of as few the least bits)");
        check.due("one, though two have less bits", Check.told("h2 0 0 6;m3;m3;m6;").crew(0), 4);
        check.due("each of three", Check.told("h2 0 0 5;m5;m5;m5;").crew(0), 1);
        check.due("each of the last two", Check.told("h2 0 0 5;m4;m5;m6;").crew(0), 2);
        check.due("each two of three", Check.told("h2 0 0 9;m5;m5;m5;").crew(0), 3);
        check.due("the third with the first or the second", Check.told("h2 0 0 9;m4;m4;m5;").crew(0), 5);
        check.due("the last two", Check.told("h2 0 0 9;m3;m4;m5;").crew(0), 6);
        check.due("all three", Check.told("h2 0 0 9;m3;m3;m3;").crew(0), 7);
    }

    private static void crewByForce() {
        check.says("whose FORCES make SIZE NOW");
        DuskStones x = Check.told("h9 0 0 5;m5;m4;o2;");
        x.order(0, 0);
        Check.hours(x, 1);
        check.due("tired, but FORCE counts", x.crew(0), 1);
        Check.hours(x, 13);
        check.due("ROLLED 7", x.crew(0), 1);
        DuskStones y = Check.told("h9 0 0 5;m4;m5;o2;");
        y.order(1, 0);
        Check.hours(y, 15);
        check.due("ROLLED 7: SIZE NOW 5", y.crew(0), 2);
        y.hour();
        check.due("ROLLED 8: SIZE NOW 4", y.crew(0), 1);
    }

    private static void crewAsked() {
        check.says("CREW, as bits; NONE. BAD.");
        DuskStones x = Check.told("h2 0 0 1;h2 0 0 1;h2 0 0 1;h2 0 0 9;m5;");
        check.due("crew(0)", x.crew(0), 1);
        check.due("crew(3)", x.crew(3), NONE);
        for (int bad : new int[] {-1, 4, NONE, LEAST, MOST}) {
            check.due("crew(" + bad + ")", x.crew(bad), BAD);
        }
    }

    private static void blocksNow() {
        check.says("BLOCKS of a HILL: HILLS (bits) whose STONES BLOCK its next step NOW");
        for (int from = 1; from <= 9; from++) {
            DuskStones x = Check.told("h9 0 0 1;h9 0 0 1;j0 1 " + from + ";m9;o6;");
            check.due("both at step 0, join from " + from, x.blocks(0) + x.blocks(1), 0);
            x.order(0, 1);
            x.hour();
            check.due("the other at step 1, join from " + from, x.blocks(0), from <= 1 ? 2 : 0);
            check.due("and back, join from " + from, x.blocks(1), 0);
            x.hour();
            check.due("the other at step 2, join from " + from, x.blocks(0), 0);
        }
        DuskStones all = Check.told("h9 0 0 1;h9 0 0 1;h9 0 0 1;h9 0 0 1;j3 0 1;j3 1 1;j2 3 1;m9;m9;m9;o6;");
        for (int m = 0; m < 3; m++) {
            all.order(m, m);
        }
        all.hour();
        check.due("three block the fourth", all.blocks(3), 7);
        all.order(1, NONE);
        all.hour();
        check.due("one blocks the fourth", all.blocks(3), 2);
        all.order(1, 1);
        all.hour();
        check.due("nobody blocks the fourth", all.blocks(3), 0);
    }

    private static void blocksOver() {
        check.says("(OVER: none)");
        DuskStones x = Check.told("h2 0 0 1;h9 0 0 1;j0 1 1;m9;m9;o6;");
        x.order(0, 0);
        Check.hours(x, 2);
        x.order(1, 1);
        Check.hours(x, 3);
        check.due("stone 0 is OVER at 2", x.stone(0, 3), 1);
        check.due("stone 1 is at 3", x.stone(1, 0), 3);
        check.due("nobody blocks what is OVER", x.blocks(0), 0);
        check.due("what is OVER blocks nobody", x.blocks(1), 0);
    }

    private static void blocksAsked() {
        check.says("BLOCKS, as bits. BAD.");
        DuskStones x = Check.told("h2 0 0 1;".repeat(4));
        check.due("blocks(3)", x.blocks(3), 0);
        for (int bad : new int[] {-1, 4, NONE, LEAST, MOST}) {
            check.due("blocks(" + bad + ")", x.blocks(bad), BAD);
        }
    }
}
