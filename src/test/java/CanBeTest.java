/** Promises 12 to 16: what can be; nothing is changed by asking. */
public final class CanBeTest {
    private static final Check check = new Check("CanBeTest");
    private static final int BAD = DuskStones.BAD, STATE = DuskStones.STATE, NONE = DuskStones.NONE;
    private static final int NOT_SO_MANY = -5;

    public static void main(String[] args) {
        highestRows();
        highestOfTwo();
        highestBlocked();
        highestOver();
        highestRefused();
        daysByLedges();
        daysByWear();
        daysFromNow();
        daysBlocked();
        littleSizes();
        littleRefused();
        crews();
        blockers();
        nothingChanges();
        check.finish();
    }

    /** HIGHEST of stone 0, and its row. */
    private static void climbs(String when, DuskStones x, int step, int... row) {
        check.due(when + ": HIGHEST", x.highest(0, NONE), step);
        for (int i = 0; i < row.length; i++) {
            check.due(when + ": men of hour " + i, x.highest(0, i), row[i]);
        }
        check.due(when + ": no more hours", x.highest(0, row.length), NOT_SO_MANY);
    }

    private static void highestRows() {
        climbs("one man needs rest", Check.told("h9 0 0 5;m5;o4;"), 2, 0, 1, 0, 1);
        climbs("two take turns", Check.told("h9 0 0 5;m5;m5;o4;"), 4, 1, 2, 1, 2);
        climbs("as late as can be", Check.told("h2 0 0 1;m9;o6;"), 2, 0, 0, 0, 0, 1, 1);
        climbs("no men", Check.told("h2 0 0 1;"), 0, 0, 0, 0, 0);
        climbs("too heavy", Check.told("h2 5 0 9;m9;m4;o3;"), 0, 0, 0, 0);
        climbs("slope counts", Check.told("h9 2 0 3;m5;o2;"), 1, 0, 1);
        climbs("the lesser number", Check.told("h9 0 0 4;m2;m2;m4;o1;"), 1, 3);
        climbs("he is at 0 and 1 then", Check.told("h9 0 0 1;m1;o5;"), 3, 1, 0, 1, 0, 1);
        climbs("all are needed", Check.told("h9 0 0 6;m2;m2;m2;o1;"), 1, 7);
        DuskStones x = Check.told("h9 0 0 5;h9 0 0 9;m5;m6;o4;");
        x.order(0, 1);
        x.order(1, 1);
        Check.hours(x, 2);
        // Strengths are 3 and 4 then: 7, behind an hour of rest 4 and 5.
        climbs("tired men, two hours left", x, 2, 3, 3);
        DuskStones y = Check.told("h9 0 0 9;m5;m6;o4;");
        y.order(0, 0);
        y.order(1, 0);
        Check.hours(y, 3);
        // Strengths are 2 and 3, and it stands at step 2 (11 and 9 made 9).
        climbs("the last hour", y, 2, 0);
    }

    private static void highestOfTwo() {
        DuskStones x = Check.told("h9 0 0 9;h9 0 0 1;m8;m3;o3;");
        check.due("the light stone", x.highest(1, NONE), 3);
        check.due("the heavy stone behind it", x.highest(0, NONE), 2);
        check.due("the heavy stone, hour 0", x.highest(0, 0), 0);
        check.due("the heavy stone, hour 1", x.highest(0, 1), 3);
        check.due("the heavy stone, hour 2", x.highest(0, 2), 3);
        DuskStones y = Check.told("h9 0 0 1;h9 0 0 9;m8;o3;");
        y.highest(0, NONE);
        check.due("a stone that can't be moved, asked last", y.highest(1, NONE), 0);
        check.due("nobody pushes it", y.highest(1, 0), 0);
    }

    private static void highestBlocked() {
        DuskStones x = Check.told("h9 0 511 1;h9 0 511 1;j0 1 1;m9;o6;");
        x.order(0, 1);
        Check.hours(x, 2);
        climbs("a stone at 2 blocks", x, 1, 0, 0, 0, 1);
        DuskStones y = Check.told("h9 0 511 1;h9 0 511 1;j0 1 3;m9;o6;");
        y.order(0, 1);
        Check.hours(y, 2);
        climbs("a stone at 2, below the join", y, 4, 1, 1, 1, 1);
        DuskStones z = Check.told("h9 0 511 1;h2 0 511 1;j0 1 1;m9;o6;");
        z.order(0, 1);
        Check.hours(z, 2);
        climbs("a stone at 2 that is OVER", z, 4, 1, 1, 1, 1);
    }

    private static void highestOver() {
        DuskStones x = Check.told("h2 0 0 1;m9;o5;");
        x.order(0, 0);
        Check.hours(x, 2);
        climbs("OVER", x, 2, 0, 0, 0);
    }

    private static void highestRefused() {
        DuskStones x = Check.told("h2 0 0 1;m9;o5;");
        for (int bad : new int[] {-1, 1, NONE, Integer.MIN_VALUE, Integer.MAX_VALUE}) {
            check.due("highest(" + bad + ", NONE)", x.highest(bad, NONE), BAD);
            check.due("highest(" + bad + ", 0)", x.highest(bad, 0), BAD);
            check.due("highest(" + bad + ", 9)", x.highest(bad, 9), BAD);
        }
        for (int bad : new int[] {-1, -2, -8, -10, Integer.MIN_VALUE}) {
            check.due("highest(0, " + bad + ")", x.highest(0, bad), BAD);
        }
        check.due("highest(0, 4)", x.highest(0, 4), 1);
        for (int many : new int[] {5, 6, 7, Integer.MAX_VALUE}) {
            check.due("highest(0, " + many + ")", x.highest(0, many), NOT_SO_MANY);
        }
    }

    private static void daysByLedges() {
        check.due("no ledge", Check.told("h2 0 0 1;m9;o1;").days(0), NONE);
        check.due("a ledge", Check.told("h2 0 2 1;m9;o1;").days(0), 2);
        check.due("a ledge, rain on day 0", Check.told("h2 0 2 1;m9;o1;r1;").days(0), 3);
        check.due("a ledge, rain on days 0 to 5", Check.told("h2 0 2 1;m9;o1;r63;").days(0), 8);
        check.due("a ledge, rain each day", Check.told("h2 0 2 1;m9;o1;r127;").days(0), NONE);
        check.due("today", Check.told("h2 0 0 1;m9;o2;r127;").days(0), 1);
        check.due("no men", Check.told("h2 0 511 1;").days(0), NONE);
        check.due("too heavy", Check.told("h2 1 511 9;m9;").days(0), NONE);
        check.due("all men", Check.told("h2 1 511 9;m9;m2;").days(0), 2);
    }

    private static void daysByWear() {
        // A step a day for 8 days wears it by 1; then the tired man can do it twice.
        check.due("worn by 8 days", Check.told("h2 0 0 5;m5;o2;").days(0), 9);
        // 8 days by a step, then 4 by two.
        check.due("worn by 12 days", Check.told("h3 0 0 5;m5;o3;").days(0), 13);
    }

    private static void daysFromNow() {
        DuskStones x = Check.told("h4 0 511 1;h9 0 0 9;m2;o4;");
        check.due("it comes up twice a day", x.days(0), 2);
        x.order(0, 1);
        Check.hours(x, 3);
        // He has 0 now, so that today is lost.
        check.due("a tired man", x.days(0), 3);
        x.hour();
        check.due("a rested man", x.days(0), 2);
        x.order(0, 0);
        Check.hours(x, 4);
        check.due("half of it is done", x.days(0), 1);
        Check.hours(x, 4);
        check.due("it is OVER", x.days(0), 0);
        for (int bad : new int[] {-1, 2, NONE, Integer.MIN_VALUE, Integer.MAX_VALUE}) {
            check.due("days(" + bad + ")", x.days(bad), BAD);
        }
        DuskStones y = Check.told("h2 0 2 1;m9;o1;r2;");
        y.hour();
        check.due("rain on the day it is now", y.days(0), 3);
    }

    private static void daysBlocked() {
        DuskStones x = Check.told("h3 0 0 1;h9 0 2 1;j0 1 1;m9;o3;");
        x.order(0, 1);
        x.hour();
        x.order(0, NONE);
        check.due("a stone on a ledge blocks for good", x.days(0), NONE);
        DuskStones y = Check.told("h3 0 0 1;h9 0 2 1;j0 1 1;m9;o3;r16;");
        y.order(0, 1);
        y.hour();
        check.due("till rain washes it down", y.days(0), 6);
        DuskStones z = Check.told("h3 0 0 1;h9 0 0 1;j0 1 1;m9;o3;");
        z.order(0, 1);
        z.hour();
        check.due("till it rolls at dusk", z.days(0), 2);
    }

    private static void littleSizes() {
        check.due("8, then 6", Check.told("h2 0 0 9;m5;m3;o3;").little(0), 6);
        check.due("with a slope", Check.told("h2 2 0 9;m5;m3;o3;").little(0), 4);
        check.due("9 at most", Check.told("h2 0 0 1;m9;m9;o3;").little(0), 9);
        check.due("1 at least", Check.told("h2 5 0 9;m4;m4;o3;").little(0), 1);
        check.due("not even 1", Check.told("h2 5 0 9;m4;m3;o3;").little(0), NONE);
        check.due("too few hours", Check.told("h3 0 0 1;m9;o2;").little(0), NONE);
        check.due("just enough hours", Check.told("h3 0 0 1;m9;o3;").little(0), 7);
        check.due("no man makes less than 0", Check.told("h3 0 0 1;m1;m9;o3;").little(0), 7);
        check.due("no men", Check.told("h2 0 0 1;").little(0), NONE);
        DuskStones x = Check.told("h3 0 0 1;h9 0 0 9;m9;m5;o5;");
        x.order(0, 0);
        x.order(1, 1);
        Check.hours(x, 2);
        check.due("a step is left: 7 and 3", x.little(0), 9);
        x.order(0, 1);
        x.hour();
        x.hour();
        check.due("a step is left: 5 and 1", x.little(0), 6);
    }

    private static void littleRefused() {
        DuskStones x = Check.told("h2 0 511 1;h9 0 511 1;j0 1 2;m9;m9;o6;");
        x.order(0, 1);
        Check.hours(x, 2);
        check.due("blocked today", x.little(0), NONE);
        x.hour();
        check.due("free now", x.little(0), 9);
        x.order(1, 0);
        x.hour();
        x.hour();
        check.due("OVER", x.little(0), STATE);
        for (int bad : new int[] {-1, 2, NONE, Integer.MIN_VALUE, Integer.MAX_VALUE}) {
            check.due("little(" + bad + ")", x.little(bad), BAD);
        }
    }

    private static void crews() {
        check.due("one of three", Check.told("h2 1 0 5;m3;m4;m6;").crew(0), 4);
        check.due("two of three", Check.told("h2 1 0 6;m3;m4;m6;").crew(0), 3);
        check.due("two, the least bits that make it", Check.told("h2 1 0 7;m3;m4;m6;").crew(0), 5);
        check.due("three of three", Check.told("h2 4 0 9;m3;m4;m6;").crew(0), 7);
        check.due("not enough", Check.told("h2 5 0 9;m3;m4;m6;").crew(0), NONE);
        check.due("of as few the least bits", Check.told("h2 0 0 5;m5;m5;m5;").crew(0), 1);
        check.due("of two the least bits", Check.told("h2 1 0 9;m5;m5;m5;").crew(0), 3);
        check.due("no men", Check.told("h2 0 0 1;").crew(0), NONE);
        DuskStones x = Check.told("h9 0 0 2;m2;m1;o2;");
        x.order(0, 0);
        check.due("two by FORCE", x.crew(0), 1);
        x.hour();
        check.due("FORCE, not STRENGTH", x.crew(0), 1);
        DuskStones y = Check.told("h9 0 0 4;m3;m1;o2;");
        y.order(0, 0);
        y.order(1, 0);
        check.due("SIZE 4", y.crew(0), 3);
        Check.hours(y, 16);
        check.due("SIZE NOW 3", y.crew(0), 1);
        DuskStones z = Check.told("h2 0 0 9;m9;m2;o2;");
        z.order(0, 0);
        z.order(1, 0);
        Check.hours(z, 2);
        check.due("it is OVER", z.stone(0, 3), 1);
        check.due("CREW of one that is OVER", z.crew(0), 1);
        for (int bad : new int[] {-1, 1, NONE, Integer.MIN_VALUE, Integer.MAX_VALUE}) {
            check.due("crew(" + bad + ")", z.crew(bad), BAD);
        }
    }

    private static void blockers() {
        DuskStones x = Check.told("h5 0 511 1;h5 0 511 1;h5 0 511 1;h2 0 511 1;j0 1 1;j2 0 1;j0 3 1;j1 3 2;m9;m9;m9;o6;");
        check.due("nobody at first", x.blocks(0), 0);
        x.order(0, 1);
        x.order(1, 2);
        x.order(2, 3);
        x.hour();
        check.due("three block", x.blocks(0), 14);
        check.due("hill 1 next is free", x.blocks(1), 0);
        x.order(0, NONE);
        x.order(1, NONE);
        x.hour();
        check.due("one is OVER", x.blocks(0), 6);
        check.due("one that is OVER is at hill 1's next step", x.blocks(1), 0);
        check.due("nobody blocks one that is OVER", x.blocks(3), 0);
        for (int bad : new int[] {-1, 4, NONE, Integer.MIN_VALUE, Integer.MAX_VALUE}) {
            check.due("blocks(" + bad + ")", x.blocks(bad), BAD);
        }
        DuskStones y = Check.told("h2 0 511 1;h9 0 511 1;j0 1 1;m9;m9;o6;");
        y.order(0, 0);
        Check.hours(y, 2);
        y.order(0, 1);
        Check.hours(y, 3);
        stepIs(y, 1, 3);
        check.due("OVER: none, though one is at the step above", y.blocks(0), 0);
    }

    private static void stepIs(DuskStones x, int h, int step) {
        check.due("step of stone " + h, x.stone(h, 0), step);
    }

    private static void nothingChanges() {
        DuskStones x = Check.told("h9 0 2 3;h9 1 4 4;j0 1 1;m5;m7;o4;r9;");
        x.order(0, 1);
        x.order(1, 0);
        Check.hours(x, 6);
        String was = picture(x);
        x.highest(0, NONE);
        x.highest(1, 1);
        x.days(0);
        x.days(1);
        x.little(0);
        x.crew(1);
        x.blocks(0);
        x.evening();
        x.wear(0, 1);
        x.odds(0, 4, 5, 0);
        x.odds(1, 3, 10, 1);
        check.holds("nothing is changed by asking", was.equals(picture(x)));
        check.due("an hour may be UNDONE as ever", x.undo(), 7);
    }

    private static String picture(DuskStones x) {
        StringBuilder all = new StringBuilder();
        for (int i = 0; i < 5; i++) {
            all.append(x.now(i)).append(' ');
        }
        for (int i = 0; i < 2; i++) {
            for (int what = 0; what < 4; what++) {
                all.append(x.stone(i, what)).append(' ').append(x.man(i, what)).append(' ');
            }
            all.append(x.written(0, i)).append(' ');
        }
        return all.toString();
    }
}
