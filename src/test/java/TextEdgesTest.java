/** The edges of the text and of what it tells: part 1 of the terms, promises 1 to 8 and 26. */
public final class TextEdgesTest {
    private static final Check check = new Check("TextEdgesTest");
    private static final int BAD = DuskStones.BAD, STATE = DuskStones.STATE, FULL = DuskStones.FULL;
    private static final int NONE = DuskStones.NONE, NO = DuskStones.NO;
    private static final int LEAST = Integer.MIN_VALUE, MOST = Integer.MAX_VALUE;
    private static final String HILL = "h2 0 0 1;";

    public static void main(String[] args) {
        newObject();
        newObjectRefuses();
        letters();
        textAtMost();
        textEmpty();
        hillsAtMost();
        highs();
        slopes();
        ledges();
        sizes();
        stepsAtFirst();
        joinsAtMost();
        joinSteps();
        menAtMost();
        forces();
        hoursOfADay();
        rains();
        blanks();
        letterAhead();
        letterWithin();
        letterBehindANumber();
        letterBehindAnItem();
        itemsEndBySemicolon();
        numbersOfItems();
        hillsToldAhead();
        unlikeHills();
        onceEach();
        firstFault();
        numberAbove();
        zeroAhead();
        endsTooEarly();
        howManyItems();
        allAnew();
        hillAsked();
        stoneAsked();
        manAsked();
        nowAsked();
        countAsked();
        check.finish();
    }

    /** hills() of a text on a new object: how many items, or -10 less the fault. */
    private static void reads(String text, int want) {
        DuskStones x = new DuskStones();
        Check.type(x, text);
        check.due("hills() of '" + text + "'", x.hills(), want);
        check.due("letters behind hills() of '" + text + "'", x.count(6), want < 0 ? text.length() : 0);
        check.due("HILLS and MEN of '" + text + "'", want < 0 ? x.count(0) + x.count(2) : 0, 0);
    }

    private static void fault(String text, int place) {
        reads(text, -10 - place);
    }

    /** A number may be from least to most, and neither one less nor one more. */
    private static void numbers(String ahead, String behind, int items, int least, int most) {
        for (int n = least; n <= most; n++) {
            reads(ahead + n + behind, items);
        }
        if (least > 0) {
            fault(ahead + (least - 1) + behind, ahead.length());
        }
        for (int n : new int[] {most + 1, most + 2, 511, 512, 999}) {
            if (n > most) {
                fault(ahead + n + behind, ahead.length());
            }
        }
        fault(ahead + "-" + most + behind, ahead.length());
    }

    private static void newObject() {
        check.says("`DuskStones()`: As told; no HILLS, no MEN.");
        DuskStones x = new DuskStones();
        int[] counts = {0, 0, 0, 4, 0, 0, 0};
        for (int what = 0; what < counts.length; what++) {
            check.due("count(" + what + ")", x.count(what), counts[what]);
        }
        for (int what = 0; what < 5; what++) {
            check.due("now(" + what + ")", x.now(what), 0);
        }
        check.due("clear()", x.clear(), 0);
        check.due("forget()", x.forget(), 0);
        check.due("evening()", x.evening(), 0);
        check.due("trace()", x.trace(), 0);
        check.due("hills()", x.hills(), 0);
        check.due("keep(0)", x.keep(0), 0);
        check.due("hour()", x.hour(), 0);
    }

    private static void newObjectRefuses() {
        check.says("BAD (a number is not as told, or there is no such thing), STATE (as told), FULL.");
        DuskStones x = new DuskStones();
        check.due("hill(0, 0)", x.hill(0, 0), BAD);
        check.due("stone(0, 0)", x.stone(0, 0), BAD);
        check.due("man(0, 0)", x.man(0, 0), BAD);
        check.due("order(0, NONE)", x.order(0, NONE), BAD);
        check.due("undo()", x.undo(), STATE);
        check.due("highest(0, NONE)", x.highest(0, NONE), BAD);
        check.due("days(0)", x.days(0), BAD);
        check.due("little(0)", x.little(0), BAD);
        check.due("crew(0)", x.crew(0), BAD);
        check.due("blocks(0)", x.blocks(0), BAD);
        check.due("written(0, 0)", x.written(0, 0), BAD);
        check.due("saw(0, 0)", x.saw(0, 0), BAD);
        check.due("odds(0, 1, 0, 0)", x.odds(0, 1, 0, 0), BAD);
        check.due("wear(0, 1)", x.wear(0, 1), BAD);
        check.due("rate(0, 0)", x.rate(0, 0), NO);
        check.due("back(0)", x.back(0), STATE);
        check.due("back(1)", x.back(1), STATE);
        check.due("what may be UNDONE", x.now(4), 0);
    }

    private static void letters() {
        check.says("A letter (0 .. 255) comes to THE TEXT: how many it has. BAD; FULL.");
        DuskStones x = new DuskStones();
        for (int bad : new int[] {-1, 256, NONE, LEAST, MOST, 256 + 'm', 65536 + 'm'}) {
            check.due("type(" + bad + ") of an empty text", x.type(bad), BAD);
        }
        check.due("nothing was typed", x.count(6), 0);
        check.due("type(0)", x.type(0), 1);
        check.due("type(-1)", x.type(-1), BAD);
        check.due("type(255)", x.type(255), 2);
        check.due("type(256)", x.type(256), BAD);
        check.due("two letters", x.count(6), 2);
        check.due("letter 0 is another letter", x.hills(), -10);
        x.clear();
        for (int letter = 0; letter < 128; letter++) {
            check.due("type(" + letter + ")", x.type(letter), letter + 1);
        }
    }

    private static void textAtMost() {
        check.says("They are a text (200 letters at most), told letter by letter");
        DuskStones x = new DuskStones();
        Check.type(x, " ".repeat(196) + "m9");
        check.due("letter 199", x.type(';'), 199);
        check.due("letter 200", x.type(' '), 200);
        check.due("letter 201", x.type('m'), FULL);
        check.due("letter 201, a wrong one: BAD is ahead of FULL", x.type(256), BAD);
        check.due("letter 201, another wrong one", x.type(-1), BAD);
        check.due("200 letters are there", x.count(6), 200);
        check.due("what was refused is not read", x.hills(), 1);
        check.due("all 200 were read", x.man(0, 0), 9);
        check.due("there is room again", x.type('m'), 1);
    }

    private static void textEmpty() {
        check.says("THE TEXT is empty: how many letters it had.");
        DuskStones x = new DuskStones();
        check.due("clear() of none", x.clear(), 0);
        x.type('m');
        check.due("clear() of one", x.clear(), 1);
        check.due("clear() again", x.clear(), 0);
        Check.type(x, "m1;".repeat(66) + "m1");
        check.due("clear() of 200", x.clear(), 200);
        check.due("no letters", x.count(6), 0);
        check.due("an empty text is read", x.hills(), 0);
        check.due("no men of what was cleared", x.count(2), 0);
        check.due("the first letter again", x.type('m'), 1);
    }

    private static void hillsAtMost() {
        check.says("HILLS 0 ..");
        check.says("(4 at most), each HIGH (2 .. 9 steps)");
        for (int n = 0; n <= 4; n++) {
            reads(HILL.repeat(n), n);
            DuskStones x = Check.told(HILL.repeat(n));
            check.due("count(0) of " + n, x.count(0), n);
            check.due("the last of " + n, x.hill(n - 1, 0), n == 0 ? BAD : 2);
            check.due("one behind the last of " + n, x.hill(n, 0), BAD);
        }
        fault(HILL.repeat(5), 36);
        fault(HILL.repeat(4) + "m1;h", 39);
    }

    private static void highs() {
        check.says("each HIGH (2 .. 9 steps)");
        numbers("h", " 0 0 1;", 1, 2, 9);
        fault("h0 0 0 1;", 1);
        for (int high = 2; high <= 9; high++) {
            check.due("HIGH", Check.told("h" + high + " 0 0 1;").hill(0, 0), high);
        }
    }

    private static void slopes() {
        check.says("with a SLOPE (0 .. 5)");
        numbers("h2 ", " 0 1;", 1, 0, 5);
        for (int slope = 0; slope <= 5; slope++) {
            check.due("SLOPE", Check.told("h2 " + slope + " 0 1;").hill(0, 1), slope);
        }
    }

    private static void ledges() {
        check.says("LEDGES (bits of steps, 0 .. 511)");
        numbers("h2 0 ", " 1;", 1, 0, 511);
        for (int ledges : new int[] {0, 1, 2, 255, 256, 510, 511}) {
            check.due("LEDGES", Check.told("h2 0 " + ledges + " 1;").hill(0, 2), ledges);
        }
    }

    private static void sizes() {
        check.says("a STONE of a SIZE (1 .. 9)");
        numbers("h2 0 0 ", ";", 1, 1, 9);
        for (int size = 1; size <= 9; size++) {
            check.due("SIZE", Check.told("h2 0 0 " + size + ";").hill(0, 3), size);
        }
    }

    private static void stepsAtFirst() {
        check.says("at step 0 at first");
        DuskStones x = Check.told("h2 0 511 1;h9 5 511 9;h9 0 1 9;h2 5 1 1;");
        for (int h = 0; h < 4; h++) {
            check.due("step of stone " + h, x.stone(h, 0), 0);
        }
    }

    private static void joinsAtMost() {
        check.says("JOINS (4 at most) of two HILLS");
        for (int n = 0; n <= 4; n++) {
            reads(HILL + HILL + "j0 1 1;".repeat(n), n + 2);
            check.due("count(1)", Check.told(HILL + HILL + "j0 1 1;".repeat(n)).count(1), n);
        }
        fault(HILL + HILL + "j0 1 1;".repeat(5), 18 + 28);
        fault(HILL + HILL + "j0 1 1;j1 0 2;j0 1 3;j1 0 4;m1;j", 18 + 31);
    }

    private static void joinSteps() {
        check.says("from a step (1 .. 9) on");
        numbers(HILL + HILL + "j0 1 ", ";", 3, 1, 9);
    }

    private static void menAtMost() {
        check.says("MEN 0 .. (3 at most)");
        for (int n = 0; n <= 3; n++) {
            reads("m1;".repeat(n), n);
            DuskStones x = Check.told("m7;".repeat(n));
            check.due("count(2) of " + n, x.count(2), n);
            check.due("the last of " + n, x.man(n - 1, 0), n == 0 ? BAD : 7);
            check.due("one behind the last of " + n, x.man(n, 0), BAD);
        }
        fault("m1;m1;m1;m1;", 9);
        fault("m1;m1;m1;o1;m", 12);
    }

    private static void forces() {
        check.says("FORCE (1 .. 9)");
        numbers("m", ";", 1, 1, 9);
        for (int force = 1; force <= 9; force++) {
            check.due("FORCE", Check.told("m" + force + ";").man(0, 0), force);
        }
    }

    private static void hoursOfADay() {
        check.says("HOURS of a DAY (1 .. 6; 4 at first)");
        numbers("o", ";", 1, 1, 6);
        for (int hours = 1; hours <= 6; hours++) {
            check.due("HOURS", Check.told("o" + hours + ";").count(3), hours);
        }
        check.due("HOURS of a new object", new DuskStones().count(3), 4);
        check.due("HOURS that were not told", Check.told("m1;").count(3), 4);
        DuskStones x = Check.told("o6;");
        x.hills();
        check.due("HOURS that are not told anew", x.count(3), 4);
    }

    private static void rains() {
        check.says("RAIN: in which DAYS of a WEEK of 7 it rains (bits 0 .. 6; none at first)");
        numbers("r", ";", 1, 0, 127);
        for (int rain : new int[] {0, 1, 63, 64, 126, 127}) {
            check.due("RAIN", Check.told("r" + rain + ";").count(4), rain);
        }
        check.due("RAIN of a new object", new DuskStones().count(4), 0);
        check.due("RAIN that was not told", Check.told("m1;").count(4), 0);
        DuskStones x = Check.told("r127;");
        x.hills();
        check.due("RAIN that is not told anew", x.count(4), 0);
    }

    private static void blanks() {
        check.says("blanks (32) between TOKENS");
        reads(" ", 0);
        reads(" ".repeat(200), 0);
        reads("h2 0 0 1;m1;", 2);
        reads(" h 2 0 0 1 ; m 1 ; ", 2);
        reads("   h   2   0   0   1   ;   m   1   ;   ", 2);
        reads(" ".repeat(100) + "m" + " ".repeat(50) + "1" + " ".repeat(47) + ";", 1);
        fault("h200 1;", 1);
        fault("m 1 1;", 4);
        fault("r1 2;", 3);
    }

    private static boolean isIn(String letters, int c) {
        return letters.indexOf(c) >= 0;
    }

    private static void letterAhead() {
        check.says("TOKENS are the letters h, j, m, o, r, NUMBERS and ;");
        for (char c = 0; c < 256; c++) {
            reads(c + "m1;", c == ' ' ? 1 : isIn("hjmor", c) ? -11 : -10);
        }
    }

    private static void letterWithin() {
        check.says("of any other letter, a NUMBER above 511 or with a 0 ahead of others, that TOKEN's");
        for (char c = 0; c < 256; c++) {
            reads("m" + c + "1;", c == ' ' ? 1 : -11);
        }
    }

    private static void letterBehindANumber() {
        check.says("of any other letter");
        for (char c = 0; c < 256; c++) {
            int want = c == ' ' ? 1 : isIn("0123456789", c) ? -11 : c == ';' ? -13 : -12;
            reads("m1" + c + ";", want);
        }
    }

    private static void letterBehindAnItem() {
        check.says("the place of the first letter of the first TOKEN that can't stand there");
        for (char c = 0; c < 256; c++) {
            reads("m1;" + c, c == ' ' ? 1 : isIn("hjmor", c) ? -14 : -13);
        }
    }

    private static void itemsEndBySemicolon() {
        check.says("ITEMS, each ended by ;");
        fault("m1", 2);
        fault("m1 ", 3);
        fault("m1m1;", 2);
        fault("m1;;", 3);
        fault(";m1;", 0);
        fault("o1r1;", 2);
        fault("h2 0 0 1 m1;", 9);
        fault("h2 0 0 1j", 8);
    }

    private static void numbersOfItems() {
        check.says("h H S L Z (a HILL: HIGH, SLOPE, LEDGES, SIZE) ; j A B T (HILLS told ahead, unlike) ; m N (a MAN) ; "
            + "o N (HOURS), r N (RAIN; once each at most)");
        fault("h;", 1);
        fault("h2;", 2);
        fault("h2 0;", 4);
        fault("h2 0 0;", 6);
        reads("h2 0 0 1;", 1);
        fault("h2 0 0 1 1;", 9);
        String two = HILL + HILL;
        fault(two + "j;", 19);
        fault(two + "j0;", 20);
        fault(two + "j0 1;", 22);
        reads(two + "j0 1 1;", 3);
        fault(two + "j0 1 1 1;", 25);
        for (String letter : new String[] {"m", "o", "r"}) {
            fault(letter + ";", 1);
            reads(letter + "1;", 1);
            fault(letter + "1 1;", 3);
        }
        DuskStones x = Check.told("h3 1 2 4;");
        int[] numbers = {3, 1, 2, 4};
        for (int what = 0; what < 4; what++) {
            check.due("the numbers in their order", x.hill(0, what), numbers[what]);
        }
    }

    private static void hillsToldAhead() {
        check.says("a HILL that was not told");
        fault("j0 1 1;", 1);
        fault(HILL + "j0 1 1;", 12);
        fault(HILL + "j1 0 1;", 10);
        for (int hills = 2; hills <= 4; hills++) {
            String text = HILL.repeat(hills);
            int last = hills - 1;
            reads(text + "j0 " + last + " 1;", hills + 1);
            reads(text + "j" + last + " 0 1;", hills + 1);
            fault(text + "j0 " + hills + " 1;", text.length() + 3);
            fault(text + "j" + hills + " 0 1;", text.length() + 1);
        }
        fault(HILL + "j0 1 1;" + HILL, 12);
        reads(HILL + HILL + "j0 1 1;" + HILL + "j2 0 1;", 5);
        fault(HILL + HILL + "j2 0 1;" + HILL, 19);
        DuskStones x = Check.told(HILL + HILL);
        Check.type(x, "j0 1 1;");
        check.due("HILLS of an earlier text are not told", x.hills(), -11);
    }

    private static void unlikeHills() {
        check.says("a B that is A");
        String four = HILL.repeat(4);
        for (int a = 0; a < 4; a++) {
            for (int b = 0; b < 4; b++) {
                reads(four + "j" + a + " " + b + " 1;", a == b ? -10 - 39 : 5);
            }
        }
        fault(HILL + "j0 0 1;", 12);
    }

    private static void onceEach() {
        check.says("o, r again");
        fault("o1;o", 3);
        fault("o6;o6;", 3);
        fault("o4;m1;o4;", 6);
        fault("r0;r", 3);
        fault("r0;r0;", 3);
        fault("r127;m1;r127;", 8);
        reads("o1;r1;", 2);
        reads("r1;o1;", 2);
        fault("r1;o1;r1;o1;", 6);
        DuskStones x = Check.told("o1;r1;");
        Check.type(x, "o2;r2;");
        check.due("once each in another text", x.hills(), 2);
    }

    private static void firstFault() {
        check.says("FAULT: the place of the first letter of the first TOKEN that can't stand there (a fifth h, a fifth j, "
            + "a fourth m, o, r again, a HILL that was not told, a B that is A, a NUMBER beyond what it may be, too)");
        fault("h1 6 512 0;", 1);
        fault("h2 6 512 0;", 3);
        fault("h2 0 512 0;", 5);
        fault("h2 0 0 0;x", 7);
        fault("m0x", 1);
        fault("m1x0", 2);
        fault("o1;o0;", 3);
        fault("o0;o1;", 1);
        fault(HILL.repeat(4) + "h1", 36);
        fault(HILL + "j0 0 0;", 12);
        fault(HILL + "j1 1 0;", 10);
        fault("    m   10   ;", 8);
    }

    private static void numberAbove() {
        check.says("a NUMBER above 511");
        reads("h2 0 511 1;", 1);
        fault("h2 0 512 1;", 5);
        fault("h2 0 5110 1;", 5);
        fault("h2 0 9999999999 1;", 5);
        fault("h2 0 4294967296 1;", 5);
        fault("h2 0 4294967297 1;", 5);
        fault("h2 0 18446744073709551617 1;", 5);
        fault("m" + "1".repeat(199), 1);
        fault("9".repeat(200), 0);
        fault("512", 0);
        fault("511", 0);
    }

    private static void zeroAhead() {
        check.says("or with a 0 ahead of others");
        reads("r0;", 1);
        fault("r00;", 1);
        fault("r01;", 1);
        fault("r0127;", 1);
        fault("h2 00 0 1;", 3);
        fault("h2 0 00 1;", 5);
        fault("h02 0 0 1;", 1);
        fault("h2 0 0 01;", 7);
        fault("m09;", 1);
        fault("o0" + "0".repeat(100), 1);
        reads("h2 0 100 1;r10;", 2);
        fault("00", 0);
    }

    private static void endsTooEarly() {
        check.says("the text's length, if it ends too early");
        String text = " h 9 5 511 9 ; h2 0 0 1;j0 1 9;m9; o6;r 127 ; ";
        for (int length = 0; length <= text.length(); length++) {
            String part = text.substring(0, length);
            int ended = part.lastIndexOf(';') + 1;
            int items = (int) part.chars().filter(c -> c == ';').count();
            reads(part, part.substring(ended).isBlank() ? items : -10 - length);
        }
        fault("m1    ", 6);
        fault("m" + " ".repeat(199), 200);
    }

    private static void howManyItems() {
        check.says("THE TEXT tells all anew, and is empty then: how many ITEMS. -10 less FAULT: nothing changes.");
        String all = HILL.repeat(4) + "j0 1 1;j1 2 1;j2 3 1;j3 0 1;m1;m2;m3;o1;r1;";
        reads("", 0);
        reads(all, 13);
        fault(all + "m", all.length());
        fault(all + "o", all.length());
        fault("x", 0);
        DuskStones x = Check.told(all);
        x.order(0, 0);
        x.hour();
        Check.type(x, "h9 1 2 3;m9;x");
        check.due("a fault", x.hills(), -10 - 12);
        check.due("the same fault again", x.hills(), -10 - 12);
        check.due("its letters", x.count(6), 13);
        check.due("HILLS as before", x.count(0), 4);
        check.due("MEN as before", x.count(2), 3);
        check.due("HIGH as before", x.hill(0, 0), 2);
        check.due("the DAY as before", x.now(0), 1);
        check.due("its letters go on", x.type('x'), 14);
        x.clear();
        check.due("an empty text tells all anew", x.hills(), 0);
        check.due("no HILLS", x.count(0), 0);
        check.due("no JOINS", x.count(1), 0);
        check.due("no MEN", x.count(2), 0);
    }

    private static void allAnew() {
        check.says("THE TEXT tells all anew");
        String two = "h9 0 510 1;h9 0 510 1;";
        DuskStones x = Check.told(two + "j0 1 1;j0 1 2;m9;m9;m9;o6;r127;");
        for (int times = 0; times < 2; times++) {
            Check.type(x, two + "m9;");
            check.due("a lesser text", x.hills(), 3);
            x.order(0, 0);
            x.hour();
            check.due("JOINS are gone", x.blocks(1), 0);
            check.due("MEN are gone", x.man(1, 0), BAD);
            Check.hours(x, 3);
            check.due("HOURS are gone", x.now(0), 1);
            check.due("RAIN is gone", x.stone(0, 0), 4);
        }
        Check.type(x, two + "j1 0 1;m9;m1;o5;");
        check.due("a greater text", x.hills(), 6);
        x.order(0, 0);
        x.hour();
        check.due("a JOIN is told", x.blocks(1), 1);
        check.due("a MAN is told", x.man(1, 1), 1);
    }

    private static void hillAsked() {
        check.says("Of a HILL: 0 HIGH, 1 SLOPE, 2 LEDGES, 3 SIZE (as told). BAD.");
        DuskStones x = Check.told("h9 5 511 8;h2 1 3 4;h3 2 5 6;h4 3 7 9;");
        int[][] told = {{9, 5, 511, 8}, {2, 1, 3, 4}, {3, 2, 5, 6}, {4, 3, 7, 9}};
        for (int what = 0; what < 4; what++) {
            for (int h = 0; h < 4; h++) {
                check.due("hill(" + h + ", " + what + ")", x.hill(h, what), told[h][what]);
            }
            for (int bad : new int[] {-1, 4, NONE, LEAST, MOST}) {
                check.due("hill(" + bad + ", " + what + ")", x.hill(bad, what), BAD);
            }
        }
        for (int bad : new int[] {-1, 4, NONE, LEAST, MOST}) {
            check.due("hill(3, " + bad + ")", x.hill(3, bad), BAD);
        }
        DuskStones y = Check.told("h5 0 0 5;m5;o1;");
        y.order(0, 0);
        Check.hours(y, 8);
        check.due("SIZE NOW is less", y.stone(0, 1), 4);
        check.due("SIZE as told", y.hill(0, 3), 5);
    }

    private static void stoneAsked() {
        check.says("Of a STONE: 0 its step, 1 SIZE NOW, 2 ROLLED, 3 whether it is OVER. BAD.");
        DuskStones x = Check.told("h2 0 0 1;h3 0 0 9;h9 0 0 3;h9 0 0 4;m9;m9;o2;");
        x.order(0, 0);
        x.order(1, 3);
        Check.hours(x, 3);
        int[][] due = {{2, 1, 0, 1}, {0, 9, 0, 0}, {0, 3, 0, 0}, {1, 4, 2, 0}};
        for (int what = 0; what < 4; what++) {
            for (int h = 0; h < 4; h++) {
                check.due("stone(" + h + ", " + what + ")", x.stone(h, what), due[h][what]);
            }
            for (int bad : new int[] {-1, 4, NONE, LEAST, MOST}) {
                check.due("stone(" + bad + ", " + what + ")", x.stone(bad, what), BAD);
            }
        }
        for (int bad : new int[] {-1, 4, NONE, LEAST, MOST}) {
            check.due("stone(0, " + bad + ")", x.stone(0, bad), BAD);
        }
    }

    private static void manAsked() {
        check.says("Of a MAN: 0 FORCE, 1 STRENGTH, 2 his ORDER (NONE). BAD.");
        DuskStones x = Check.told(HILL.repeat(4) + "m1;m9;m5;");
        x.order(0, 3);
        x.order(1, 0);
        x.hour();
        int[][] due = {{1, 0, 3}, {9, 8, 0}, {5, 5, NONE}};
        for (int what = 0; what < 3; what++) {
            for (int m = 0; m < 3; m++) {
                check.due("man(" + m + ", " + what + ")", x.man(m, what), due[m][what]);
            }
            for (int bad : new int[] {-1, 3, NONE, LEAST, MOST}) {
                check.due("man(" + bad + ", " + what + ")", x.man(bad, what), BAD);
            }
        }
        for (int bad : new int[] {-1, 3, NONE, LEAST, MOST}) {
            check.due("man(0, " + bad + ")", x.man(0, bad), BAD);
        }
    }

    private static void nowAsked() {
        check.says("0 the DAY, 1 the HOUR, 2 STONES that are OVER (bits), 3 how many DUSKS are WRITTEN DOWN, "
            + "4 how many may be UNDONE. BAD.");
        DuskStones x = Check.told(HILL.repeat(4) + "m9;m9;m9;o3;");
        for (int m = 0; m < 3; m++) {
            x.order(m, m + 1);
        }
        check.due("none is OVER", x.now(2), 0);
        Check.hours(x, 2);
        check.due("three are OVER", x.now(2), 14);
        x.order(0, 0);
        Check.hours(x, 3);
        int[] due = {1, 2, 15, 1, 9};
        for (int what = 0; what < 5; what++) {
            check.due("now(" + what + ")", x.now(what), due[what]);
        }
        for (int bad : new int[] {-1, 5, NONE, LEAST, MOST}) {
            check.due("now(" + bad + ")", x.now(bad), BAD);
        }
    }

    private static void countAsked() {
        check.says("0 HILLS, 1 JOINS, 2 MEN, 3 HOURS, 4 RAIN (bits), 5 SEEN, 6 letters of THE TEXT. BAD.");
        DuskStones x = Check.told(HILL.repeat(4) + "j0 1 1;j1 2 1;m1;m1;m1;o6;r127;");
        for (int i = 0; i < 5; i++) {
            x.saw(0, 0);
        }
        Check.type(x, "seven..");
        int[] due = {4, 2, 3, 6, 127, 5, 7};
        for (int what = 0; what < 7; what++) {
            check.due("count(" + what + ")", x.count(what), due[what]);
        }
        for (int bad : new int[] {-1, 7, NONE, LEAST, MOST}) {
            check.due("count(" + bad + ")", x.count(bad), BAD);
        }
    }
}
