/** The edges of orders, hours, dusks and of what is undone: part 2 of the terms, promises 9 to 11. */
public final class WorkEdgesTest {
    private static final Check check = new Check("WorkEdgesTest");
    private static final int BAD = DuskStones.BAD, STATE = DuskStones.STATE, NONE = DuskStones.NONE;
    private static final int LEAST = Integer.MIN_VALUE, MOST = Integer.MAX_VALUE;

    public static void main(String[] args) {
        menAtFirst();
        ordersAsked();
        strengthsAtLeast();
        onlyMenOrderedThere();
        hillByHill();
        blockedFromThatStep();
        blockedByAnother();
        blockedNotByOver();
        joinsOfTwoOnly();
        overAtHigh();
        overForGood();
        strengthZeroAtLeast();
        strengthForceAtMost();
        overAheadOfThatHour();
        lastOfHours();
        ledgesOfSteps();
        ledgesInRain();
        rollsAboveStepZero();
        weeks();
        forceAgain();
        writtenAtDusk();
        dayAtMost();
        dayOfTheLastHour();
        sizeNow();
        sizeNowCounts();
        tenAreKnown();
        latestFirst();
        refusedAreNotKnown();
        nothingToUndo();
        check.finish();
    }

    private static void menAtFirst() {
        check.says("Each MAN has an ORDER: a HILL, or none (at first), and STRENGTH (his FORCE at first).");
        DuskStones x = Check.told("h2 0 0 1;m1;m5;m9;");
        int[] forces = {1, 5, 9};
        for (int m = 0; m < 3; m++) {
            check.due("ORDER of man " + m, x.man(m, 2), NONE);
            check.due("STRENGTH of man " + m, x.man(m, 1), forces[m]);
        }
        check.due("nobody pushes", x.hour(), 0);
    }

    private static void ordersAsked() {
        check.says("An ORDER (a HILL; NONE: none): what it was. BAD.");
        DuskStones x = Check.told("h2 0 0 9;".repeat(4) + "m1;m1;m1;");
        for (int m = 0; m < 3; m++) {
            check.due("order(" + m + ", 3)", x.order(m, 3), NONE);
            check.due("order(" + m + ", 0)", x.order(m, 0), 3);
            check.due("order(" + m + ", NONE)", x.order(m, NONE), 0);
            check.due("order(" + m + ", NONE) again", x.order(m, NONE), NONE);
            check.due("order(" + m + ", " + m + ")", x.order(m, m), NONE);
        }
        for (int bad : new int[] {-1, 3, NONE, LEAST, MOST}) {
            check.due("order(" + bad + ", 0)", x.order(bad, 0), BAD);
            check.due("order(" + bad + ", NONE)", x.order(bad, NONE), BAD);
        }
        for (int bad : new int[] {-1, 4, -8, -10, LEAST, MOST}) {
            check.due("order(2, " + bad + ")", x.order(2, bad), BAD);
        }
        for (int m = 0; m < 3; m++) {
            check.due("ORDER of man " + m + " behind that", x.man(m, 2), m);
        }
    }

    private static void strengthsAtLeast() {
        check.says("STRENGTHS of all MEN who are ordered there make its SIZE NOW and SLOPE at least");
        for (int size = 1; size <= 9; size++) {
            for (int slope = 0; slope <= 5; slope++) {
                for (int force = 1; force <= 9; force++) {
                    DuskStones x = Check.told("h2 " + slope + " 0 " + size + ";m" + force + ";");
                    x.order(0, 0);
                    check.due(force + " of " + size + " and " + slope, x.hour(), force >= size + slope ? 1 : 0);
                }
            }
        }
        check.due("4, 5 and 5 of 14", allPush("h2 5 0 9;m4;m5;m5;"), 1);
        check.due("4, 5 and 4 of 14", allPush("h2 5 0 9;m4;m5;m4;"), 0);
        check.due("1, 1 and 1 of 3", allPush("h2 2 0 1;m1;m1;m1;"), 1);
        check.due("1, 1 and 1 of 4", allPush("h2 2 0 2;m1;m1;m1;"), 0);
    }

    /** The first hour of a land whose three men are ordered to hill 0. */
    private static int allPush(String text) {
        DuskStones x = Check.told(text);
        for (int m = 0; m < 3; m++) {
            x.order(m, 0);
        }
        return x.hour();
    }

    private static void onlyMenOrderedThere() {
        check.says("all MEN who are ordered there");
        DuskStones x = Check.told("h5 0 510 9;h5 0 510 1;m5;m4;o6;");
        x.order(0, 0);
        check.due("5 of 9, the other has no order", x.hour(), 0);
        x.order(1, 1);
        check.due("the other is ordered to hill 1", x.hour(), 1);
        check.due("hill 0", x.stone(0, 0), 0);
        check.due("hill 1", x.stone(1, 0), 1);
    }

    private static void hillByHill() {
        check.says("AN HOUR goes by: HILL by HILL");
        DuskStones x = Check.told("h9 0 510 1;h9 0 510 1;h9 0 510 1;h9 0 510 1;j0 1 1;j1 2 1;j2 3 1;m9;m9;m9;o6;");
        x.order(0, 1);
        x.order(1, 2);
        x.order(2, 3);
        check.due("1 and 3 come up, 2 is blocked by 1 in that hour", x.hour(), 2);
        check.due("hill 2", x.stone(2, 0), 0);
        check.due("1 and 3 again, and 3 gives way too late", x.hour(), 2);
        check.due("hill 2, blocked by 3 till then", x.stone(2, 0), 0);
        check.due("hill 3", x.stone(3, 0), 2);
        check.due("now all", x.hour(), 3);
    }

    /** Whether stone 0, at step 1, comes up while stone 1 is at a step; the hills join as told. */
    private static int comesUp(String join, int other) {
        DuskStones x = Check.told("h9 0 510 1;h9 0 510 1;" + join + "m9;m9;o6;");
        Check.push(x, 1, 1, other);
        x.order(0, 0);
        x.hour();
        check.due(join + " stone 0 is at step 1", x.stone(0, 0), 1);
        check.due(join + " stone 1 is at step " + other, x.stone(1, 0), other);
        return x.hour();
    }

    private static void blockedFromThatStep() {
        check.says("a STONE of another HILL that JOINS it from that step on, or ahead, is at that step and not OVER");
        for (int from = 1; from <= 9; from++) {
            String[] joins = {"j0 1 " + from + ";", "j1 0 " + from + ";", "j0 1 9;j1 0 " + from + ";"};
            for (String join : joins) {
                check.due(join + " the other is at step 2", comesUp(join, 2), from <= 2 ? 0 : 1);
                check.due(join + " the other is at step 3", comesUp(join, 3), 1);
                check.due(join + " the other is at step 0", comesUp(join, 0), 1);
                if (from > 1) {
                    check.due(join + " the other is at step 1", comesUp(join, 1), 1);
                }
            }
        }
        check.due("no join", comesUp("", 2), 1);
        check.due("four joins, none from 2 on", comesUp("j0 1 9;j1 0 8;j0 1 4;j1 0 3;", 2), 1);
        check.due("four joins, the last from 2 on", comesUp("j0 1 9;j1 0 8;j0 1 4;j1 0 2;", 2), 0);
    }

    private static void blockedByAnother() {
        check.says("their steps of one number from that on are one place");
        DuskStones x = Check.told("h9 0 510 1;h9 0 510 1;j0 1 8;m9;m9;o6;");
        x.order(0, 0);
        x.order(1, 1);
        Check.hours(x, 7);
        check.due("both at step 7, below the join", x.stone(0, 0) + x.stone(1, 0), 14);
        check.due("only one comes to step 8", x.hour(), 1);
        check.due("the other is blocked", x.blocks(1), 1);
        check.due("it comes there when stone 0 comes over", x.hour(), 2);
        check.due("and over, for OVER does not block", x.hour(), 1);
        check.due("both are OVER", x.now(2), 3);
        DuskStones y = Check.told("h9 0 510 1;h9 0 510 1;j0 1 9;m9;m9;o6;");
        y.order(0, 0);
        y.order(1, 1);
        Check.hours(y, 8);
        check.due("a join from 9 on blocks nobody at 8", y.stone(0, 0) + y.stone(1, 0), 16);
        check.due("nor at 9, where both are OVER", y.hour(), 2);
    }

    private static void blockedNotByOver() {
        check.says("is at that step and not OVER");
        DuskStones x = Check.told("h9 0 510 1;h2 0 510 1;h3 0 510 1;j0 1 1;j0 2 1;m9;m9;m9;o6;");
        x.order(1, 1);
        x.order(2, 2);
        x.hour();
        x.hour();
        x.order(2, NONE);
        x.order(0, 0);
        check.due("stone 0 comes to step 1", x.hour(), 1);
        check.due("stone 1 is OVER at 2, stone 2 is not", x.now(2), 2);
        check.due("stone 2 blocks alone", x.blocks(0), 4);
        check.due("blocked", x.hour(), 0);
        x.order(2, 2);
        check.due("stone 2 comes over in that hour, too late", x.hour(), 1);
        check.due("nobody blocks", x.hour(), 1);
        check.due("past those that are OVER", x.stone(0, 0), 2);
    }

    private static void joinsOfTwoOnly() {
        check.says("JOINS (4 at most) of two HILLS from a step (1 .. 9) on");
        DuskStones x = Check.told("h9 0 510 1;h9 0 510 1;h9 0 510 1;j0 1 1;j1 2 1;m9;m9;o6;");
        x.order(0, 0);
        x.order(1, 2);
        check.due("0 and 2 are joined to 1, not to one another", x.hour(), 2);
        check.due("both block hill 1", x.blocks(1), 5);
        check.due("they do not block one another", x.hour(), 2);
    }

    private static void overAtHigh() {
        check.says("it comes a step up; at step HIGH it is OVER");
        for (int high = 2; high <= 9; high++) {
            DuskStones x = Check.told("h" + high + " 0 510 1;m9;m9;o6;");
            x.order(0, 0);
            for (int step = 1; step <= high; step++) {
                check.due("HIGH " + high + ", to step " + step, x.hour(), 1);
                check.due("HIGH " + high + ", its step", x.stone(0, 0), step);
                check.due("HIGH " + high + ", OVER at " + step, x.stone(0, 3), step == high ? 1 : 0);
                check.due("HIGH " + high + ", bits at " + step, x.now(2), step == high ? 1 : 0);
            }
            check.due("HIGH " + high + ", no higher", x.hour(), 0);
            check.due("HIGH " + high + ", its step is HIGH", x.stone(0, 0), high);
        }
    }

    private static void overForGood() {
        check.says("it is OVER, for good");
        DuskStones x = Check.told("h2 0 0 1;m9;o2;r127;");
        x.order(0, 0);
        Check.hours(x, 2);
        for (int day = 1; day < 99; day++) {
            check.due("still OVER on day " + day, x.stone(0, 3), 1);
            Check.hours(x, 2);
        }
        check.due("still OVER on day 99", x.now(2), 1);
        check.due("it did not roll", x.stone(0, 2), 0);
        check.due("written at HIGH", x.written(0, 0), 2);
    }

    private static void strengthZeroAtLeast() {
        check.says("has 1 STRENGTH less (0 at least)");
        DuskStones x = Check.told("h9 5 0 9;m1;m2;m9;o6;");
        for (int m = 0; m < 3; m++) {
            x.order(m, 0);
        }
        int[][] strengths = {{0, 1, 8}, {0, 0, 7}, {0, 0, 6}, {0, 0, 5}};
        for (int[] row : strengths) {
            x.hour();
            for (int m = 0; m < 3; m++) {
                check.due("STRENGTH of man " + m, x.man(m, 1), row[m]);
            }
        }
        DuskStones y = Check.told("h5 0 0 1;m1;o6;");
        y.order(0, 0);
        check.due("STRENGTH 1 of 1", y.hour(), 1);
        check.due("STRENGTH 0 of 1", y.hour(), 0);
        check.due("STRENGTH 0 of 1 again", y.hour(), 0);
    }

    private static void strengthForceAtMost() {
        check.says("any other one 1 more (his FORCE at most)");
        DuskStones x = Check.told("h2 0 0 9;m3;m9;o6;");
        x.order(0, 0);
        Check.hours(x, 2);
        check.due("tired", x.man(0, 1), 1);
        check.due("he had no order", x.man(1, 1), 9);
        x.order(0, NONE);
        int[] strengths = {2, 3, 3};
        for (int strength : strengths) {
            x.hour();
            check.due("STRENGTH of one who rests", x.man(0, 1), strength);
            check.due("STRENGTH of one who is rested", x.man(1, 1), 9);
        }
    }

    private static void overAheadOfThatHour() {
        check.says("each MAN who is ordered to a HILL whose STONE was not OVER ahead of that HOUR");
        DuskStones x = Check.told("h2 0 0 1;m4;m3;o6;");
        x.order(0, 0);
        int[] strengths = {3, 2, 3, 4, 4};
        for (int hour = 0; hour < strengths.length; hour++) {
            x.hour();
            check.due("STRENGTH behind hour " + hour, x.man(0, 1), strengths[hour]);
        }
        check.due("one who was not there", x.man(1, 1), 3);
    }

    private static void lastOfHours() {
        check.says("With the last of HOURS comes DUSK");
        for (int hours = 1; hours <= 6; hours++) {
            DuskStones x = Check.told("h9 0 0 1;m9;o" + hours + ";");
            endsDay(x, hours);
        }
        endsDay(Check.told("h9 0 0 1;m9;"), 4);
    }

    private static void endsDay(DuskStones x, int hours) {
        x.order(0, 0);
        for (int hour = 0; hour < hours; hour++) {
            check.due("HOUR of " + hours, x.now(1), hour);
            check.due("DAY at hour " + hour + " of " + hours, x.now(0), 0);
            check.due("DUSKS at hour " + hour + " of " + hours, x.now(3), 0);
            check.due("no dusk ahead of hour " + hour + " of " + hours, x.stone(0, 0), hour);
            x.hour();
        }
        check.due("HOUR 0 again, of " + hours, x.now(1), 0);
        check.due("DAY 1, of " + hours, x.now(0), 1);
        check.due("a DUSK, of " + hours, x.now(3), 1);
        check.due("it rolled, of " + hours, x.stone(0, 2), hours);
    }

    /** Brings stone 0 to a step by the dusk of the day that it answers; a ledge at 4 helps it to 5 and more. */
    private static int toStep(DuskStones x, int step) {
        int ahead = step > 4 ? 4 : 0;
        if (ahead > 0) {
            Check.push(x, 0, 0, 4);
        }
        Check.push(x, 0, 0, step - ahead);
        Check.hours(x, 4 - (step - ahead));
        return x.now(0) - 1;
    }

    private static void ledgesOfSteps() {
        check.says("stays, if there is a LEDGE at its step");
        for (int step = 1; step <= 8; step++) {
            int transit = step > 4 ? 16 : 0;
            DuskStones x = Check.told("h9 0 " + (1 << step | transit) + " 1;m9;");
            toStep(x, step);
            check.due("a ledge at " + step + ": its step", x.stone(0, 0), step);
            check.due("a ledge at " + step + ": ROLLED", x.stone(0, 2), 0);
            check.due("a ledge at " + step + ": written", x.written(0, 0), step);
            DuskStones y = Check.told("h9 0 " + (511 - (1 << step)) + " 1;m9;");
            toStep(y, step);
            check.due("no ledge at " + step + ": its step", y.stone(0, 0), 0);
            check.due("no ledge at " + step + ": ROLLED", y.stone(0, 2), step);
            check.due("no ledge at " + step + ": written", y.written(0, 0), 0);
        }
    }

    private static void ledgesInRain() {
        check.says("and it does not RAIN that DAY (DAY by 7, what is left over); else it ROLLS to step 0: "
            + "ROLLED is that many steps more");
        for (int step = 1; step <= 8; step++) {
            int day = step > 4 ? 1 : 0;
            DuskStones x = Check.told("h9 0 511 1;m9;r" + (1 << day) + ";");
            check.due("the day of step " + step, toStep(x, step), day);
            check.due("rain at step " + step, x.stone(0, 0), 0);
            check.due("ROLLED by rain from " + step, x.stone(0, 2), step);
            DuskStones y = Check.told("h9 0 511 1;m9;r" + (127 - (day == 0 ? 1 : 3)) + ";");
            toStep(y, step);
            check.due("rain on the days behind, at step " + step, y.stone(0, 0), step);
            check.due("not ROLLED from " + step, y.stone(0, 2), 0);
        }
    }

    private static void rollsAboveStepZero() {
        check.says("each STONE that is not OVER, above step 0");
        for (String ledges : new String[] {"0", "1", "511"}) {
            for (String rain : new String[] {"r0;", "r127;"}) {
                DuskStones x = Check.told("h2 0 " + ledges + " 1;m9;o1;" + rain);
                Check.hours(x, 20);
                check.due("step of one that was never pushed", x.stone(0, 0), 0);
                check.due("ROLLED of one that was never pushed", x.stone(0, 2), 0);
                check.due("SIZE NOW of one that was never pushed", x.stone(0, 1), 1);
            }
        }
    }

    private static void weeks() {
        check.says("(DAY by 7, what is left over)");
        for (int bit = 0; bit < 7; bit++) {
            DuskStones x = Check.told("h2 0 2 1;m9;o1;r" + (1 << bit) + ";");
            int rolled = 0;
            for (int day = 0; day < 99; day++) {
                x.order(0, x.stone(0, 0) == 0 ? 0 : NONE);
                x.hour();
                boolean wet = day % 7 == bit;
                rolled += wet ? 1 : 0;
                check.due("bit " + bit + ", step behind day " + day, x.stone(0, 0), wet ? 0 : 1);
            }
            check.due("bit " + bit + ", ROLLED", x.stone(0, 2), rolled);
        }
    }

    private static void forceAgain() {
        check.says("All have their FORCE again; ORDERS stay.");
        DuskStones x = Check.told("h9 0 0 9;m9;m1;m4;o6;");
        x.order(0, 0);
        x.order(1, 0);
        Check.hours(x, 5);
        check.due("he is tired", x.man(0, 1), 4);
        check.due("he is worn out", x.man(1, 1), 0);
        x.hour();
        int[] forces = {9, 1, 4};
        int[] orders = {0, 0, NONE};
        for (int m = 0; m < 3; m++) {
            check.due("STRENGTH of man " + m, x.man(m, 1), forces[m]);
            check.due("ORDER of man " + m, x.man(m, 2), orders[m]);
        }
    }

    private static void writtenAtDusk() {
        check.says("It is WRITTEN DOWN at which step each STONE is then (the last 20 DUSKS).");
        DuskStones x = Check.told("h9 0 126 1;h9 0 0 1;m9;m9;o1;");
        x.order(0, 0);
        x.order(1, 1);
        for (int dusk = 1; dusk <= 43; dusk++) {
            x.hour();
            int known = Math.min(dusk, 20);
            check.due("DUSKS behind dusk " + dusk, x.now(3), known);
            check.due("the latest of " + dusk, x.written(0, 0), dusk % 7);
            check.due("stone 1 rolled", x.written(0, 1), 0);
            check.due("the oldest of " + dusk, x.written(known - 1, 0), (dusk - known + 1) % 7);
            check.due("none older of " + dusk, x.written(known, 0), BAD);
            check.due("all of " + dusk, x.evening(), (1 << known) - 1);
        }
        for (int i = 0; i < 20; i++) {
            check.due("written(" + i + ", 0)", x.written(i, 0), (43 - i) % 7);
        }
    }

    private static void dayAtMost() {
        check.says("The DAY is 1 more (0 at first, 99 at most), HOUR 0 again.");
        DuskStones x = Check.told("h9 0 2 1;m9;o1;");
        for (int day = 0; day < 99; day++) {
            check.due("DAY", x.now(0), day);
            check.due("hour() on day " + day, x.hour(), 0);
        }
        check.says("STATE: it is DAY 99.");
        x.order(0, 0);
        for (int i = 0; i < 3; i++) {
            check.due("hour() on day 99", x.hour(), STATE);
            check.due("DAY 99", x.now(0), 99);
            check.due("HOUR of day 99", x.now(1), 0);
            check.due("DUSKS on day 99", x.now(3), 20);
            check.due("what may be UNDONE on day 99", x.now(4), 10);
            check.due("STRENGTH on day 99", x.man(0, 1), 9);
            check.due("step on day 99", x.stone(0, 0), 0);
        }
        check.due("keep() on day 99", x.keep(1), 99);
        check.due("the order is undone", x.undo(), 9);
        check.due("the last hour is undone", x.undo(), 8);
        check.due("DAY 98", x.now(0), 98);
        check.due("hour() on day 98", x.hour(), 0);
        check.due("hour() on day 99 again", x.hour(), STATE);
        x.undo();
        check.due("back() to day 99", x.back(1), 99);
        check.due("hour() behind back()", x.hour(), STATE);
    }

    private static void dayOfTheLastHour() {
        check.says("`int hour()`: AN HOUR: how many STONES came a step up. STATE: it is DAY 99.");
        DuskStones x = Check.told("h9 0 0 1;h9 0 0 1;h9 0 0 1;m9;m9;m9;o2;");
        Check.hours(x, 2 * 98);
        for (int m = 0; m < 3; m++) {
            x.order(m, m);
        }
        check.due("the first hour of day 98", x.hour(), 3);
        check.due("DAY 98, HOUR 1", 10 * x.now(0) + x.now(1), 981);
        x.order(0, NONE);
        check.due("the last hour of day 98", x.hour(), 2);
        check.due("DAY 99, HOUR 0", 10 * x.now(0) + x.now(1), 990);
        check.due("hour() on day 99", x.hour(), STATE);
        check.due("ROLLED", x.stone(0, 2) + 10 * x.stone(1, 2), 21);
    }

    private static void sizeNow() {
        check.says("SIZE NOW: SIZE less ROLLED by 8 (cut), 1 at least.");
        for (int size = 1; size <= 9; size++) {
            DuskStones x = Check.told("h2 0 0 " + size + ";m9;o1;");
            x.order(0, 0);
            for (int rolled = 0; rolled <= 80; rolled++) {
                check.due("ROLLED of SIZE " + size, x.stone(0, 2), rolled);
                check.due("SIZE NOW of " + size + ", ROLLED " + rolled, x.stone(0, 1), Math.max(1, size - rolled / 8));
                x.hour();
            }
        }
        DuskStones y = Check.told("h9 0 0 2;m9;o3;");
        y.order(0, 0);
        int[] sizes = {2, 2, 2, 1};
        for (int day = 0; day < sizes.length; day++) {
            check.due("SIZE NOW, ROLLED " + 3 * day, y.stone(0, 1), sizes[day]);
            Check.hours(y, 3);
        }
    }

    private static void sizeNowCounts() {
        check.says("make its SIZE NOW and SLOPE at least");
        DuskStones x = Check.told("h9 1 0 4;m5;o2;");
        x.order(0, 0);
        for (int day = 0; day < 8; day++) {
            check.due("5 of 5 on day " + day, x.hour(), 1);
            check.due("4 of 5 on day " + day, x.hour(), 0);
        }
        check.due("ROLLED", x.stone(0, 2), 8);
        check.due("5 of 4", x.hour(), 1);
        check.due("4 of 4", x.hour(), 1);
    }

    private static void tenAreKnown() {
        check.says("(10 are known, older ones are lost)");
        for (int calls = 0; calls <= 23; calls++) {
            DuskStones x = Check.told("h9 0 0 9;m1;o5;");
            for (int i = 0; i < calls; i++) {
                check.due("what may be UNDONE behind " + i, x.now(4), Math.min(i, 10));
                x.hour();
            }
            int known = Math.min(calls, 10);
            for (int left = known - 1; left >= 0; left--) {
                check.due("undo() of " + calls, x.undo(), left);
                int hours = calls - known + left;
                check.due("the time behind it", 5 * x.now(0) + x.now(1), hours);
                check.due("what may be UNDONE then", x.now(4), left);
            }
            check.due("no more of " + calls, x.undo(), STATE);
            check.due("the oldest known of " + calls, 5 * x.now(0) + x.now(1), calls - known);
        }
    }

    private static void latestFirst() {
        check.says("UNDONE: the latest order(), hour() that was not refused");
        DuskStones x = Check.told("h9 0 510 1;h9 0 0 2;m9;m3;o2;");
        String[] pictures = new String[11];
        int[] orders = {0, 1, 1, NONE};
        for (int i = 0; i < 10; i++) {
            pictures[i] = Picture.brief(x);
            if (i % 3 == 0) {
                x.order(i % 2, orders[i / 3]);
            } else {
                x.hour();
            }
        }
        pictures[10] = Picture.brief(x);
        for (int i = 0; i < 10; i++) {
            check.holds("call " + i + " changed something", !pictures[i].equals(pictures[i + 1]));
        }
        for (int i = 9; i >= 0; i--) {
            check.due("undo()", x.undo(), i);
            check.holds("as ahead of call " + i + ": " + pictures[i], pictures[i].equals(Picture.brief(x)));
        }
        check.due("undo() of none", x.undo(), STATE);
    }

    private static void refusedAreNotKnown() {
        check.says("the latest order(), hour() that was not refused");
        DuskStones x = Check.told("h9 0 510 1;m9;o2;");
        x.order(0, 0);
        x.order(0, 1);
        x.order(1, 0);
        x.order(0, -1);
        check.due("one order may be UNDONE", x.now(4), 1);
        x.saw(0, 0);
        x.keep(0);
        x.rate(0, 0);
        x.type('m');
        x.forget();
        x.clear();
        check.due("order() and hour() alone are UNDONE", x.now(4), 1);
        check.due("undo()", x.undo(), 0);
        check.due("the order was taken back", x.man(0, 2), NONE);
        DuskStones y = Check.told("h9 0 0 9;m1;o1;");
        Check.hours(y, 99);
        y.hour();
        y.hour();
        check.due("an hour that was refused is not known", y.undo(), 9);
        check.due("the hour ahead of it is", y.now(0), 98);
    }

    private static void nothingToUndo() {
        check.says("UNDONE: how many more may be. STATE: none.");
        DuskStones x = Check.told("h9 0 0 1;m9;");
        check.due("undo() of none", x.undo(), STATE);
        check.due("undo() of none again", x.undo(), STATE);
        x.order(0, NONE);
        check.due("undo() of an order that changed nothing", x.undo(), 0);
        check.due("undo() of none then", x.undo(), STATE);
        x.order(0, 0);
        x.undo();
        check.due("what is UNDONE can't be done again", x.undo(), STATE);
        check.due("it is as ahead of it", x.man(0, 2), NONE);
        x.order(0, 0);
        x.hour();
        Check.type(x, "h9 0 0 1;m9;");
        x.hills();
        check.due("undo() behind a new text", x.undo(), STATE);
        x.order(0, 0);
        check.due("undo() of the first order behind it", x.undo(), 0);
    }
}
