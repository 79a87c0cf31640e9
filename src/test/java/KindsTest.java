/** Promises 23 to 25 and 27: kinds, the trace, images. */
public final class KindsTest {
    private static final Check check = new Check("KindsTest");
    private static final int BAD = DuskStones.BAD, STATE = DuskStones.STATE, NONE = DuskStones.NONE;
    private static final int NO = DuskStones.NO;
    private static final int[] FAR = {Integer.MIN_VALUE, Integer.MAX_VALUE};

    public static void main(String[] args) {
        rates();
        traces();
        badRates();
        keeping();
        goingBack();
        imagesKeepNothingElse();
        badImages();
        check.finish();
    }

    /** Stone 1 (SIZE 7, SLOPE 5) is at step 1; two men are ordered there, one to hill 2. */
    private static DuskStones pushed() {
        DuskStones x = Check.told("h9 0 0 4;h9 5 0 7;h5 3 0 1;m9;m9;m9;o6;");
        x.order(0, 1);
        x.order(1, 1);
        x.order(2, 2);
        x.hour();
        return x;
    }

    private static void rates() {
        DuskStones x = pushed();
        int[][] rates = {{4, 4, 4, 8, 4, 4}, {7, 8, 2, 16, 3, 9}, {1, 2, -2, 4, 0, 2}};
        for (int h = 0; h < 3; h++) {
            for (int kind = 0; kind < 6; kind++) {
                check.due("rate(" + kind + ", " + h + ")", x.rate(kind, h), rates[h][kind]);
            }
        }
        DuskStones worn = Check.told("h9 0 0 4;m9;o4;");
        worn.order(0, 0);
        Check.hours(worn, 8);
        check.due("RATE by SIZE NOW", worn.rate(0, 0), 3);
        check.due("RATE by the step it is at now", worn.rate(1, 0), 3);
        worn.hour();
        check.due("RATE behind an hour", worn.rate(3, 0), 8);
    }

    private static void traces() {
        int[] sums = {1, 11, 101, 1011, 10101, 100001};
        DuskStones x = pushed();
        long sum = 0;
        for (int times = 0; times < 3; times++) {
            for (int kind = 0; kind < 6; kind++) {
                x.rate(kind, times);
                sum += sums[kind];
                check.due("trace() behind rate(" + kind + ", " + times + ")", x.trace(), sum);
            }
        }
        x.undo();
        x.keep(0);
        x.back(0);
        check.due("undo() and back() leave the trace", x.trace(), sum);
        Check.type(x, "m1;");
        x.hills();
        check.due("a text leaves the trace", x.trace(), sum);
    }

    private static void badRates() {
        DuskStones x = pushed();
        for (int bad : new int[] {-1, 6, NONE, FAR[0], FAR[1]}) {
            check.due("rate(" + bad + ", 0)", x.rate(bad, 0), NO);
        }
        for (int bad : new int[] {-1, 3, NONE, FAR[0], FAR[1]}) {
            check.due("rate(0, " + bad + ")", x.rate(0, bad), NO);
        }
        check.due("what is refused leaves no trace", x.trace(), 0);
    }

    private static void keeping() {
        DuskStones x = Check.told("h9 0 511 1;m9;o1;");
        check.due("keep(0) on day 0", x.keep(0), 0);
        x.order(0, 0);
        Check.hours(x, 3);
        check.due("keep(1) on day 3", x.keep(1), 3);
        check.due("keep() is not UNDONE", x.now(4), 4);
        x.hour();
        check.due("back(1)", x.back(1), 3);
        check.due("the step of image 1", x.stone(0, 0), 3);
        check.due("back(0)", x.back(0), 0);
        check.due("the step of image 0", x.stone(0, 0), 0);
        check.due("the ORDER of image 0", x.man(0, 2), NONE);
        check.due("back(1) again", x.back(1), 3);
        check.due("an image is kept anew", x.keep(0), 3);
        check.due("it is the new one", x.back(0), 3);
    }

    private static void goingBack() {
        DuskStones x = Check.told("h9 0 2 1;h9 0 0 1;m9;m8;o2;r2;");
        x.order(0, 0);
        x.order(1, 1);
        Check.hours(x, 3);
        x.keep(1);
        x.order(0, 1);
        x.order(1, NONE);
        Check.hours(x, 5);
        check.due("DAY ahead of back()", x.now(0), 4);
        check.due("back(1)", x.back(1), 1);
        check.due("DAY", x.now(0), 1);
        check.due("HOUR", x.now(1), 1);
        check.due("dusks", x.now(3), 1);
        check.due("nothing can be UNDONE", x.now(4), 0);
        check.due("undo()", x.undo(), STATE);
        check.due("step 0", x.stone(0, 0), 1);
        check.due("step 1", x.stone(1, 0), 1);
        check.due("ROLLED 0", x.stone(0, 2), 2);
        check.due("ROLLED 1", x.stone(1, 2), 2);
        check.due("STRENGTH 0", x.man(0, 1), 8);
        check.due("STRENGTH 1", x.man(1, 1), 7);
        check.due("ORDER 0", x.man(0, 2), 0);
        check.due("ORDER 1", x.man(1, 2), 1);
        check.due("written(0, 0)", x.written(0, 0), 0);
        check.due("written(1, 0)", x.written(1, 0), BAD);
        x.hour();
        check.due("it goes on from there", x.now(0), 2);
        check.due("an hour may be UNDONE then", x.undo(), 0);
        check.due("the image is there still", x.back(1), 1);
    }

    private static void imagesKeepNothingElse() {
        DuskStones x = Check.told("h9 0 0 1;m9;");
        x.saw(0, 1);
        x.type('x');
        x.keep(0);
        x.saw(0, 2);
        x.type('x');
        x.rate(0, 0);
        x.back(0);
        check.due("what was SEEN stands", x.count(5), 2);
        check.due("THE TEXT stands", x.count(6), 2);
        check.due("THE TRACE stands", x.trace(), 1);
        x.forget();
        x.back(0);
        check.due("what was forgotten is not SEEN again", x.count(5), 0);
    }

    private static void badImages() {
        DuskStones x = Check.told("h9 0 0 1;m9;");
        for (int bad : new int[] {-1, 2, NONE, FAR[0], FAR[1]}) {
            check.due("keep(" + bad + ")", x.keep(bad), BAD);
            check.due("back(" + bad + ")", x.back(bad), BAD);
        }
        x.order(0, 0);
        check.due("back(0) with none kept", x.back(0), STATE);
        check.due("back(1) with none kept", x.back(1), STATE);
        check.due("what is refused leaves what may be UNDONE", x.now(4), 1);
        x.keep(1);
        check.due("back(0) with the other kept", x.back(0), STATE);
        check.due("back(1)", x.back(1), 0);
    }
}
