/** Promises 9 to 11: orders, hours with their dusks, and what is undone. */
public final class WorkTest {
    private static final Check check = new Check("WorkTest");
    private static final int BAD = DuskStones.BAD, STATE = DuskStones.STATE, NONE = DuskStones.NONE;

    public static void main(String[] args) {
        orders();
        badOrders();
        pushing();
        tiring();
        tiringAtTheTop();
        resting();
        blocking();
        hillByHill();
        whatDoesNotBlock();
        ledges();
        rain();
        rainByWeeks();
        dusk();
        wearing();
        lastDay();
        undoing();
        undoingDusks();
        tenAreKnown();
        check.finish();
    }

    private static void stones(String when, DuskStones x, int... steps) {
        for (int h = 0; h < steps.length; h++) {
            check.due(when + ": step of stone " + h, x.stone(h, 0), steps[h]);
        }
    }

    private static void orders() {
        DuskStones x = Check.told("h2 0 0 9;h2 0 0 9;m3;m2;");
        check.due("order(0, 1)", x.order(0, 1), NONE);
        check.due("order(0, 0)", x.order(0, 0), 1);
        check.due("order(0, 0) again", x.order(0, 0), 0);
        check.due("order(1, 1)", x.order(1, 1), NONE);
        check.due("order(0, NONE)", x.order(0, NONE), 0);
        check.due("order(0, NONE) again", x.order(0, NONE), NONE);
        check.due("all of them may be UNDONE", x.now(4), 6);
        check.due("ORDER of man 0", x.man(0, 2), NONE);
        check.due("ORDER of man 1", x.man(1, 2), 1);
    }

    private static void badOrders() {
        DuskStones x = Check.told("h2 0 0 9;h2 0 0 9;m3;m2;");
        for (int bad : new int[] {-1, 2, NONE, Integer.MIN_VALUE, Integer.MAX_VALUE}) {
            check.due("order(" + bad + ", 0)", x.order(bad, 0), BAD);
            check.due("order(" + bad + ", NONE)", x.order(bad, NONE), BAD);
        }
        for (int bad : new int[] {-1, 2, -8, -10, Integer.MIN_VALUE, Integer.MAX_VALUE}) {
            check.due("order(0, " + bad + ")", x.order(0, bad), BAD);
        }
        check.due("nothing that was refused is UNDONE", x.now(4), 0);
        check.due("ORDER behind what was refused", x.man(0, 2), NONE);
    }

    private static void pushing() {
        DuskStones x = Check.told("h5 2 511 5;m3;m4;o6;");
        check.due("nobody pushes", x.hour(), 0);
        x.order(0, 0);
        x.order(1, 0);
        check.due("7 of 7", x.hour(), 1);
        check.due("5 of 7", x.hour(), 0);
        stones("one push of two", x, 1);
        DuskStones y = Check.told("h5 3 511 5;m3;m4;o6;");
        y.order(0, 0);
        y.order(1, 0);
        check.due("7 of 8", y.hour(), 0);
        DuskStones z = Check.told("h5 0 511 4;h5 0 511 4;m3;m4;o6;");
        z.order(0, 0);
        z.order(1, 1);
        check.due("those of another hill do not help", z.hour(), 1);
        stones("each at his own", z, 0, 1);
    }

    private static void tiring() {
        DuskStones x = Check.told("h5 0 0 9;m3;o6;");
        x.order(0, 0);
        int[] strengths = {2, 1, 0, 0};
        for (int s : strengths) {
            x.hour();
            check.due("STRENGTH of one who pushes in vain", x.man(0, 1), s);
        }
        x.order(0, NONE);
        x.hour();
        check.due("STRENGTH of one who rests", x.man(0, 1), 1);
        check.due("FORCE stays", x.man(0, 0), 3);
    }

    private static void tiringAtTheTop() {
        DuskStones x = Check.told("h2 0 0 1;m9;m9;o6;");
        x.order(0, 0);
        x.order(1, 0);
        Check.hours(x, 2);
        check.due("it is OVER", x.stone(0, 3), 1);
        check.due("he tires in the hour in which it comes over", x.man(0, 1), 7);
        check.due("it comes no higher", x.hour(), 0);
        check.due("he rests at a stone that is OVER", x.man(0, 1), 8);
        stones("at the top", x, 2);
    }

    private static void resting() {
        DuskStones x = Check.told("h5 0 0 1;m5;o6;");
        Check.hours(x, 2);
        check.due("STRENGTH is FORCE at most", x.man(0, 1), 5);
    }

    private static void blocking() {
        DuskStones x = Check.told("h5 0 511 1;h5 0 511 1;j0 1 2;m5;m5;o6;");
        x.order(1, 1);
        Check.hours(x, 2);
        x.order(1, NONE);
        x.order(0, 0);
        check.due("below the join", x.hour(), 1);
        check.due("blocked", x.hour(), 0);
        check.due("who blocks", x.blocks(0), 2);
        stones("blocked", x, 1, 2);
        check.due("he tires all the same", x.man(0, 1), 3);
        x.order(1, 1);
        check.due("hill 1 gives way too late", x.hour(), 1);
        stones("behind that", x, 1, 3);
        check.due("now both", x.hour(), 2);
        stones("both", x, 2, 4);
    }

    private static void hillByHill() {
        DuskStones x = Check.told("h5 0 511 1;h5 0 511 1;j1 0 1;m5;m5;o6;");
        x.order(0, 0);
        x.order(1, 1);
        check.due("hill 0 takes the place that hill 1 wants", x.hour(), 1);
        stones("hill 0 is ahead", x, 1, 0);
        check.due("hill 0 gives way in time", x.hour(), 2);
        stones("in time", x, 2, 1);
    }

    private static void whatDoesNotBlock() {
        DuskStones x = Check.told("h2 0 511 1;h5 0 511 1;j0 1 1;m9;m9;o6;");
        x.order(0, 0);
        x.hour();
        x.order(0, NONE);
        x.order(1, 1);
        check.due("a stone at 1 blocks", x.hour(), 0);
        x.order(0, 0);
        check.due("it comes over, and gives way", x.hour(), 2);
        check.due("a stone that is OVER does not block", x.hour(), 1);
        stones("past it", x, 2, 2);
        DuskStones y = Check.told("h5 0 511 1;h5 0 511 1;j0 1 2;m9;m9;o6;");
        y.order(0, 0);
        y.order(1, 1);
        check.due("below the join both stand at 1", y.hour(), 2);
        check.due("from the join on only one", y.hour(), 1);
        DuskStones z = Check.told("h5 0 511 1;h5 0 511 1;h5 0 511 1;j0 1 1;m9;m9;o6;");
        z.order(0, 0);
        z.order(1, 2);
        check.due("hills that are not joined do not block", z.hour(), 2);
    }

    private static void ledges() {
        DuskStones x = Check.told("h5 0 2 1;h5 0 4 1;m9;m9;o1;");
        x.order(0, 0);
        x.order(1, 1);
        x.hour();
        stones("a ledge at 1, none at 1", x, 1, 0);
        check.due("ROLLED of one that stays", x.stone(0, 2), 0);
        check.due("ROLLED of one that rolls", x.stone(1, 2), 1);
        x.hour();
        stones("no ledge at 2", x, 0, 0);
        check.due("ROLLED by two steps", x.stone(0, 2), 2);
        check.due("ROLLED again", x.stone(1, 2), 2);
        DuskStones y = Check.told("h9 0 256 1;m9;m9;o6;");
        y.order(0, 0);
        y.order(1, 0);
        Check.hours(y, 6);
        stones("no ledge at 6", y, 0);
        DuskStones z = Check.told("h9 0 448 1;m9;m9;o4;");
        z.order(0, 0);
        z.order(1, 0);
        Check.hours(z, 4);
        check.due("ROLLED by four", z.stone(0, 2), 4);
    }

    private static void rain() {
        DuskStones x = Check.told("h5 0 2 1;m9;o1;r1;");
        x.order(0, 0);
        x.hour();
        stones("rain washes the ledge", x, 0);
        check.due("ROLLED by rain", x.stone(0, 2), 1);
        x.hour();
        stones("a dry day", x, 1);
        DuskStones y = Check.told("h2 0 0 1;m9;o2;r127;");
        y.order(0, 0);
        Check.hours(y, 2);
        stones("what is OVER stays in rain", y, 2);
        check.due("what is OVER does not roll", y.stone(0, 2), 0);
    }

    private static void rainByWeeks() {
        DuskStones x = Check.told("h9 0 2 1;m9;o1;r66;");
        x.order(0, 0);
        int[] steps = {1, 0, 1, 0, 1, 0, 0, 1, 0, 1, 0, 1, 0, 0, 1, 0};
        for (int day = 0; day < steps.length; day++) {
            x.hour();
            check.due("step behind day " + day, x.stone(0, 0), steps[day]);
        }
    }

    private static void dusk() {
        DuskStones x = Check.told("h5 0 0 9;h3 0 0 1;m3;m8;o3;");
        x.order(0, 0);
        x.order(1, 1);
        Check.hours(x, 2);
        check.due("HOUR ahead of dusk", x.now(1), 2);
        check.due("DAY ahead of dusk", x.now(0), 0);
        check.due("nothing is written ahead of dusk", x.now(3), 0);
        check.due("the hour of dusk", x.hour(), 1);
        check.due("HOUR behind dusk", x.now(1), 0);
        check.due("DAY behind dusk", x.now(0), 1);
        check.due("a dusk is written", x.now(3), 1);
        check.due("all are rested", x.man(0, 1), 3);
        check.due("all are rested, he too", x.man(1, 1), 8);
        check.due("orders stay", x.man(0, 2), 0);
        check.due("orders stay, his too", x.man(1, 2), 1);
        stones("one came over in the last hour", x, 0, 3);
        check.due("written so", x.written(0, 1), 3);
        check.due("nothing rolled", x.stone(0, 2), 0);
    }

    private static void wearing() {
        DuskStones x = Check.told("h9 0 0 3;m9;o4;");
        x.order(0, 0);
        int[] sizes = {3, 2, 2, 1, 1, 1, 1};
        for (int day = 0; day < sizes.length; day++) {
            Check.hours(x, 4);
            check.due("ROLLED behind day " + day, x.stone(0, 2), 4 * (day + 1));
            check.due("SIZE NOW behind day " + day, x.stone(0, 1), sizes[day]);
        }
        check.due("SIZE stays as told", x.hill(0, 3), 3);
        DuskStones y = Check.told("h5 0 0 2;m2;o2;");
        y.order(0, 0);
        Check.hours(y, 16);
        check.due("worn by 8 days", y.stone(0, 1), 1);
        check.due("now it comes up", y.hour(), 1);
        check.due("and up again, being worn", y.hour(), 1);
    }

    private static void lastDay() {
        DuskStones x = Check.told("h5 0 0 9;m1;o1;");
        for (int day = 0; day < 99; day++) {
            check.due("hour() of day " + day, x.hour(), 0);
        }
        check.due("the last day", x.now(0), 99);
        check.due("20 dusks are known", x.now(3), 20);
        x.order(0, 0);
        check.due("no hour on day 99", x.hour(), STATE);
        check.due("no hour was", x.now(1), 0);
        check.due("it is day 99", x.now(0), 99);
        check.due("an order may be UNDONE there", x.undo(), 9);
        check.due("the order was undone", x.man(0, 2), NONE);
        check.due("an hour too", x.undo(), 8);
        check.due("a day less", x.now(0), 98);
        check.due("an hour again", x.hour(), 0);
    }

    private static void undoing() {
        DuskStones x = Check.told("h5 0 0 2;m9;o4;");
        check.due("undo() of nothing", x.undo(), STATE);
        x.order(0, 0);
        x.hour();
        x.saw(0, 3);
        x.order(0, 5);
        check.due("refused ones are not known", x.now(4), 2);
        check.due("an hour is undone", x.undo(), 1);
        stones("an hour less", x, 0);
        check.due("its STRENGTH", x.man(0, 1), 9);
        check.due("its HOUR", x.now(1), 0);
        check.due("the order stands", x.man(0, 2), 0);
        check.due("what was SEEN stands", x.count(5), 1);
        check.due("the order is undone", x.undo(), 0);
        check.due("no order", x.man(0, 2), NONE);
        check.due("undo() of nothing more", x.undo(), STATE);
        check.due("nothing changed by that", x.man(0, 2), NONE);
    }

    private static void undoingDusks() {
        DuskStones x = Check.told("h9 0 2 9;m9;o1;");
        for (int day = 0; day < 25; day++) {
            x.order(0, day % 2 == 0 ? 0 : NONE);
            x.hour();
        }
        int[] steps = new int[20];
        for (int i = 0; i < 20; i++) {
            steps[i] = x.written(i, 0);
        }
        int rolled = x.stone(0, 2);
        int step = x.stone(0, 0);
        x.order(0, 0);
        Check.hours(x, 3);
        check.due("ROLLED is more", x.stone(0, 2), rolled + 4);
        check.due("days more", x.now(0), 28);
        for (int i = 0; i < 3; i++) {
            x.undo();
        }
        check.due("days less", x.now(0), 25);
        check.due("ROLLED as it was", x.stone(0, 2), rolled);
        check.due("step as it was", x.stone(0, 0), step);
        for (int i = 0; i < 20; i++) {
            check.due("written(" + i + ", 0) as it was", x.written(i, 0), steps[i]);
        }
        DuskStones y = Check.told("h9 0 2 1;o1;");
        y.hour();
        y.undo();
        check.due("a dusk is not written any more", y.now(3), 0);
    }

    private static void tenAreKnown() {
        DuskStones x = Check.told("h2 0 0 1;h2 0 0 1;m1;o6;");
        for (int i = 0; i < 6; i++) {
            x.order(0, i % 2);
            x.hour();
        }
        check.due("10 are known", x.now(4), 10);
        for (int left = 9; left >= 0; left--) {
            check.due("undo() with " + left + " left", x.undo(), left);
        }
        check.due("older ones are lost", x.undo(), STATE);
        check.due("the first order is not undone", x.man(0, 2), 0);
        check.due("nor the first hour", x.now(1), 1);
    }
}
