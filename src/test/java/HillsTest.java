/** Promises 1 to 8 and 26: a new object, the text, and what it tells. */
public final class HillsTest {
    private static final Check check = new Check("HillsTest");
    private static final int BAD = DuskStones.BAD, FULL = DuskStones.FULL, NONE = DuskStones.NONE;
    private static final int[] FAR = {Integer.MIN_VALUE, Integer.MAX_VALUE};

    public static void main(String[] args) {
        newObject();
        typing();
        clearing();
        goodTexts();
        faultsOfHills();
        faultsOfJoins();
        faultsOfOthers();
        lettersBehindTheEnd();
        faultChangesNothing();
        readAnew();
        hillAndStone();
        manAndNow();
        counts();
        check.finish();
    }

    private static void newObject() {
        DuskStones x = new DuskStones();
        int[] counts = {0, 0, 0, 4, 0, 0, 0};
        for (int i = 0; i < counts.length; i++) {
            check.due("new: count(" + i + ")", x.count(i), counts[i]);
        }
        for (int i = 0; i < 5; i++) {
            check.due("new: now(" + i + ")", x.now(i), 0);
        }
        check.due("new: hill(0, 0)", x.hill(0, 0), BAD);
        check.due("new: stone(0, 0)", x.stone(0, 0), BAD);
        check.due("new: man(0, 0)", x.man(0, 0), BAD);
        check.due("new: order(0, NONE)", x.order(0, NONE), BAD);
        check.due("new: evening()", x.evening(), 0);
        check.due("new: undo()", x.undo(), DuskStones.STATE);
        check.due("new: back(0)", x.back(0), DuskStones.STATE);
        check.due("new: trace()", x.trace(), 0);
        check.due("new: highest(0, NONE)", x.highest(0, NONE), BAD);
        check.due("new: rate(0, 0)", x.rate(0, 0), DuskStones.NO);
        check.due("new: hour()", x.hour(), 0);
        check.due("new: now(1) behind an hour", x.now(1), 1);
    }

    private static void typing() {
        DuskStones x = new DuskStones();
        check.due("type(0)", x.type(0), 1);
        check.due("type(255)", x.type(255), 2);
        check.due("type(-1)", x.type(-1), BAD);
        check.due("type(256)", x.type(256), BAD);
        for (int far : FAR) {
            check.due("type(" + far + ")", x.type(far), BAD);
        }
        check.due("letters behind what was refused", x.count(6), 2);
        for (int i = 3; i <= 200; i++) {
            check.due("letter " + i, x.type(32), i);
        }
        check.due("a letter too many", x.type(32), FULL);
        check.due("BAD is ahead of FULL", x.type(256), BAD);
        check.due("letters when full", x.count(6), 200);
    }

    private static void clearing() {
        DuskStones x = new DuskStones();
        check.due("clear() of nothing", x.clear(), 0);
        Check.type(x, "m1;m2");
        check.due("clear()", x.clear(), 5);
        check.due("clear() again", x.clear(), 0);
        check.due("letters behind clear()", x.count(6), 0);
        check.due("type() behind clear()", x.type('m'), 1);
        Check.type(x, "9;");
        check.due("what was cleared is not read", x.hills(), 1);
        check.due("the man told behind clear()", x.man(0, 0), 9);
    }

    /** hills() of a text on a new object. */
    private static void reads(String text, int want) {
        DuskStones x = new DuskStones();
        Check.type(x, text);
        check.due("hills() of '" + text + "'", x.hills(), want);
        check.due("letters behind hills() of '" + text + "'", x.count(6), want < 0 ? text.length() : 0);
    }

    private static void fault(String text, int place) {
        reads(text, -10 - place);
    }

    private static void goodTexts() {
        reads("", 0);
        reads("    ", 0);
        reads("h2 0 0 1;", 1);
        reads("h9 5 511 9;", 1);
        reads("  h  2   0 0 1  ;  ", 1);
        reads("m1;m9;m5;", 3);
        reads("m 1;o 2 ;r  3;", 3);
        reads("o1;", 1);
        reads("o6;", 1);
        reads("r0;", 1);
        reads("r127;", 1);
        reads("r1;o1;m1;h2 0 0 1;", 4);
        String two = "h2 0 0 1;h2 0 0 1;";
        reads(two + "j0 1 9;j1 0 1;j0 1 1;j0 1 2;", 6);
        reads("h2 0 0 1;m1;h3 1 1 2;j1 0 1;h4 2 2 3;j2 1 3;m2;h5 3 3 4;j3 0 5;j0 3 5;m3;o3;r9;", 13);
    }

    private static void faultsOfHills() {
        fault("h", 1);
        fault("h2", 2);
        fault("h2 0 0 1", 8);
        fault("h2 0 0 1  ", 10);
        fault("h1 0 0 1;", 1);
        fault("h0 0 0 1;", 1);
        fault("h10 0 0 1;", 1);
        fault("h2 6 0 1;", 3);
        fault("h2 0 512 1;", 5);
        fault("h2 0 0 0;", 7);
        fault("h2 0 0 10;", 7);
        fault("h2 0 0 1 1;", 9);
        fault("h2 0 0;", 6);
        fault("h;", 1);
        fault("h02 0 0 1;", 1);
        fault("h2 00 0 1;", 3);
        fault("h2 0 0011 1;", 5);
        fault("hh", 1);
        fault("h2 0 0 1 h", 9);
        fault("h2 0 x 1;", 5);
        fault("h2 0 0 1;;", 9);
        fault("h2\t0 0 1;", 2);
        String hill = "h2 0 0 1;";
        reads(hill.repeat(4), 4);
        fault(hill.repeat(5), 36);
        fault(hill.repeat(4) + "  h", 38);
    }

    private static void faultsOfJoins() {
        fault("j0 1 1;", 1);
        fault("h2 0 0 1;j0 1 1;", 12);
        fault("h2 0 0 1;j0 0 1;", 12);
        fault("h2 0 0 1;j1 0 1;", 10);
        fault("h2 0 0 1;j0 1 1;h2 0 0 1;", 12);
        String two = "h2 0 0 1;h2 0 0 1;";
        fault(two + "j0 1 0;", 23);
        fault(two + "j0 1 10;", 23);
        fault(two + "j1 1 1;", 21);
        fault(two + "j2 0 1;", 19);
        fault(two + "j0 2 1;", 21);
        fault(two + "j0 1;", 22);
        fault(two + "j0 1 1 1;", 25);
        fault(two + "j0 1 1", 24);
        fault(two + "j0 1 1;".repeat(5), 18 + 28);
    }

    private static void faultsOfOthers() {
        fault("m0;", 1);
        fault("m10;", 1);
        fault("m12", 1);
        fault("m1", 2);
        fault("m;", 1);
        fault("m1 2;", 3);
        fault("m1;m1;m1;m1;", 9);
        fault("o0;", 1);
        fault("o7;", 1);
        fault("o1;o1;", 3);
        fault("o2;m1;o2;", 6);
        fault("r128;", 1);
        fault("r1;r1;", 3);
        fault("r0;m1;r0;", 6);
        fault("r512;", 1);
        fault("r99999999999999999999;", 1);
        fault("r4294967297;", 1);
        fault("o01;", 1);
        fault("o00;", 1);
        fault(";", 0);
        fault("  ;", 2);
        fault("5", 0);
        fault("x", 0);
        fault("H2 0 0 1;", 0);
        fault("m1;x", 3);
        fault("m1; 0", 4);
        fault("m1,", 2);
        fault("m1" + (char) 0 + ";", 2);
        fault("m1" + (char) 160 + ";", 2);
        fault("m" + (char) 178 + ";", 1);
        fault((char) 1 + "", 0);
        fault((char) 2 + "", 0);
    }

    private static void lettersBehindTheEnd() {
        DuskStones x = new DuskStones();
        Check.type(x, "m12;    9;");
        x.clear();
        Check.type(x, "m1");
        check.due("a cleared letter does not end it", x.hills(), -10 - 2);
        x.type(';');
        check.due("nor is it another item", x.hills(), 1);
        check.due("nor a digit", x.man(0, 0), 1);
        DuskStones full = new DuskStones();
        Check.type(full, " ".repeat(200));
        check.due("200 blanks", full.hills(), 0);
        Check.type(full, " ".repeat(197) + "m9;");
        check.due("200 letters", full.hills(), 1);
        Check.type(full, " ".repeat(198) + "m9");
        check.due("200 letters that end too early", full.hills(), -10 - 200);
        full.clear();
        Check.type(full, "9".repeat(200));
        check.due("a number of 200 digits", full.hills(), -10);
    }

    private static void faultChangesNothing() {
        DuskStones x = Check.told("h5 2 3 4;h2 0 0 1;j0 1 2;m7;o2;r5;");
        x.order(0, 1);
        x.hour();
        x.saw(1, 1);
        x.keep(1);
        Check.type(x, "h9 5 511 9;m1;o6;r9;h9 9 9 9;");
        check.due("a fault", x.hills(), -10 - 23);
        check.due("fault: letters", x.count(6), 29);
        int[] counts = {2, 1, 1, 2, 5, 1};
        for (int i = 0; i < counts.length; i++) {
            check.due("fault: count(" + i + ")", x.count(i), counts[i]);
        }
        check.due("fault: HIGH", x.hill(0, 0), 5);
        check.due("fault: FORCE", x.man(0, 0), 7);
        check.due("fault: STRENGTH", x.man(0, 1), 6);
        check.due("fault: ORDER", x.man(0, 2), 1);
        check.due("fault: step", x.stone(1, 0), 1);
        check.due("fault: HOUR", x.now(1), 1);
        check.due("fault: UNDONE", x.now(4), 2);
        check.due("fault: the image", x.back(1), 0);
        check.due("the fault is there still", x.hills(), -10 - 23);
    }

    private static void readAnew() {
        DuskStones x = Check.told("h2 0 0 1;h3 0 0 1;j0 1 1;m9;m8;o1;r1;");
        x.order(0, 0);
        x.order(1, 1);
        Check.hours(x, 3);
        x.saw(0, 0);
        x.keep(0);
        x.rate(0, 0);
        Check.type(x, "m3;h4 1 2 3;");
        check.due("read anew", x.hills(), 2);
        int[] counts = {1, 0, 1, 4, 0, 0, 0};
        for (int i = 0; i < counts.length; i++) {
            check.due("anew: count(" + i + ")", x.count(i), counts[i]);
        }
        for (int i = 0; i < 5; i++) {
            check.due("anew: now(" + i + ")", x.now(i), 0);
        }
        check.due("anew: step", x.stone(0, 0), 0);
        check.due("anew: ROLLED", x.stone(0, 2), 0);
        check.due("anew: STRENGTH", x.man(0, 1), 3);
        check.due("anew: ORDER", x.man(0, 2), NONE);
        check.due("anew: no second HILL", x.stone(1, 0), BAD);
        check.due("anew: no second MAN", x.man(1, 0), BAD);
        check.due("anew: undo()", x.undo(), DuskStones.STATE);
        check.due("anew: back(0)", x.back(0), DuskStones.STATE);
        check.due("anew: written(0, 0)", x.written(0, 0), BAD);
        check.due("anew: the trace goes on", x.trace(), 1);
        x.order(0, 0);
        x.hour();
        check.due("an empty text", x.hills(), 0);
        int[] none = {0, 0, 0, 4, 0, 0, 0};
        for (int i = 0; i < none.length; i++) {
            check.due("an empty text: count(" + i + ")", x.count(i), none[i]);
        }
        check.due("an empty text: HOUR", x.now(1), 0);
        DuskStones y = Check.told("h9 0 511 1;m9;");
        y.order(0, 0);
        Check.hours(y, 3);
        Check.type(y, "h9 0 511 1;m9;");
        y.hills();
        check.due("the same text again: step", y.stone(0, 0), 0);
        check.due("the same text again: STRENGTH", y.man(0, 1), 9);
    }

    private static void hillAndStone() {
        DuskStones x = Check.told("h9 5 511 8;h2 0 4 9;m9;m9;o3;");
        int[][] hills = {{9, 5, 511, 8}, {2, 0, 4, 9}};
        for (int h = 0; h < 2; h++) {
            for (int what = 0; what < 4; what++) {
                check.due("hill(" + h + ", " + what + ")", x.hill(h, what), hills[h][what]);
            }
            check.due("stone " + h + ": step", x.stone(h, 0), 0);
            check.due("stone " + h + ": SIZE NOW", x.stone(h, 1), hills[h][3]);
            check.due("stone " + h + ": ROLLED", x.stone(h, 2), 0);
            check.due("stone " + h + ": OVER", x.stone(h, 3), 0);
        }
        x.order(0, 1);
        x.order(1, 1);
        x.hour();
        x.hour();
        check.due("stone 1 is at the top", x.stone(1, 0), 2);
        check.due("stone 1 is OVER", x.stone(1, 3), 1);
        for (int bad : new int[] {-1, 2, NONE, FAR[0], FAR[1]}) {
            check.due("hill(" + bad + ", 0)", x.hill(bad, 0), BAD);
            check.due("stone(" + bad + ", 0)", x.stone(bad, 0), BAD);
        }
        for (int bad : new int[] {-1, 4, FAR[0], FAR[1]}) {
            check.due("hill(0, " + bad + ")", x.hill(0, bad), BAD);
            check.due("stone(0, " + bad + ")", x.stone(0, bad), BAD);
        }
    }

    private static void manAndNow() {
        DuskStones x = Check.told("h2 0 0 9;h2 0 0 9;m9;m1;o6;");
        x.order(1, 1);
        x.order(0, 0);
        x.hour();
        int[][] men = {{9, 8, 0}, {1, 0, 1}};
        for (int m = 0; m < 2; m++) {
            for (int what = 0; what < 3; what++) {
                check.due("man(" + m + ", " + what + ")", x.man(m, what), men[m][what]);
            }
        }
        for (int bad : new int[] {-1, 2, NONE, FAR[0], FAR[1]}) {
            check.due("man(" + bad + ", 0)", x.man(bad, 0), BAD);
        }
        for (int bad : new int[] {-1, 3, FAR[0], FAR[1]}) {
            check.due("man(0, " + bad + ")", x.man(0, bad), BAD);
        }
        check.due("now(1)", x.now(1), 1);
        check.due("now(4)", x.now(4), 3);
        Check.hours(x, 6);
        check.due("now(0)", x.now(0), 1);
        check.due("now(1) behind dusk", x.now(1), 1);
        check.due("now(3)", x.now(3), 1);
        check.due("now(4), older ones being known", x.now(4), 9);
        x.order(0, 1);
        x.order(0, 1);
        check.due("now(4), older ones being lost", x.now(4), 10);
        for (int bad : new int[] {-1, 5, FAR[0], FAR[1]}) {
            check.due("now(" + bad + ")", x.now(bad), BAD);
        }
        DuskStones y = Check.told("h2 0 0 1;h3 0 0 1;h2 0 0 1;m5;m5;o6;");
        y.order(0, 0);
        y.order(1, 2);
        Check.hours(y, 2);
        check.due("now(2)", y.now(2), 5);
    }

    private static void counts() {
        DuskStones x = Check.told("h2 0 0 1;h2 0 0 1;h2 0 0 1;j0 2 1;j1 2 2;m4;o5;r127;");
        x.saw(2, 0);
        x.type('h');
        int[] counts = {3, 2, 1, 5, 127, 1, 1};
        for (int i = 0; i < counts.length; i++) {
            check.due("count(" + i + ")", x.count(i), counts[i]);
        }
        for (int bad : new int[] {-1, 7, FAR[0], FAR[1]}) {
            check.due("count(" + bad + ")", x.count(bad), BAD);
        }
    }
}
