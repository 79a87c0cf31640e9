/** The edges of kinds, the trace and images: part 4 of the terms, promises 23 to 25 and 27. */
public final class KindEdgesTest {
    private static final Check check = new Check("KindEdgesTest");
    private static final int BAD = DuskStones.BAD, STATE = DuskStones.STATE, NONE = DuskStones.NONE;
    private static final int NO = DuskStones.NO;
    private static final int LEAST = Integer.MIN_VALUE, MOST = Integer.MAX_VALUE;

    public static void main(String[] args) {
        rateOfStone();
        rateOfRound();
        rateOfSplit();
        rateOfWet();
        rateOfLent();
        rateOfHollow();
        rateAsked();
        traceOfKinds();
        traceAtFirst();
        keepAsked();
        backAsked();
        backBringsAll();
        backBringsNothingElse();
        backLeavesNothingUndone();
        imagesAreTwo();
        imagesOfEdges();
        readAnew();
        faultKeepsImages();
        check.finish();
    }

    private static void rateOfStone() {
        check.says("STONE its SIZE NOW (1).");
        DuskStones x = Check.told("h9 5 0 9;m9;m5;o1;");
        x.order(0, 0);
        x.order(1, 0);
        for (int rolled = 0; rolled <= 66; rolled++) {
            check.due("ROLLED " + rolled, x.rate(0, 0), Math.max(1, 9 - rolled / 8));
            x.hour();
        }
    }

    private static void rateOfRound() {
        check.says("ROUND up, and its step (10).");
        DuskStones x = Check.told("h9 0 510 3;m9;m9;o6;");
        x.order(0, 0);
        x.order(1, 0);
        for (int step = 0; step <= 9; step++) {
            check.due("at step " + step, x.rate(1, 0), 3 + step);
            x.hour();
        }
        check.due("OVER, at step 9", x.rate(1, 0), 12);
    }

    private static void rateOfSplit() {
        check.says("SPLIT up less SLOPE (100).");
        for (int slope = 0; slope <= 5; slope++) {
            DuskStones x = Check.told("h2 " + slope + " 0 1;h2 " + slope + " 0 9;");
            check.due("SIZE 1, SLOPE " + slope, x.rate(2, 0), 1 - slope);
            check.due("SIZE 9, SLOPE " + slope, x.rate(2, 1), 9 - slope);
        }
        check.says("What none is, where a number may be below 0.");
        check.due("the same as BAD, and no refusal", Check.told("h2 2 0 1;").rate(2, 0), -1);
        check.due("no such KIND", Check.told("h2 2 0 1;").rate(6, 0), NO);
    }

    private static void rateOfWet() {
        check.says("WET twice up (1000).");
        DuskStones x = Check.told("h9 5 510 9;m9;m9;m9;o6;");
        for (int m = 0; m < 3; m++) {
            x.order(m, 0);
        }
        for (int step = 0; step <= 4; step++) {
            check.due("at step " + step, x.rate(3, 0), 2 * (9 + step));
            x.hour();
        }
    }

    private static void rateOfLent() {
        check.says("LENT up, and the number of its HILL (10000).");
        DuskStones x = Check.told("h2 5 0 1;h2 5 0 1;h2 0 0 1;h2 0 0 9;");
        int[] due = {-4, -3, 3, 12};
        for (int h = 0; h < 4; h++) {
            check.due("HILL " + h, x.rate(4, h), due[h]);
        }
    }

    private static void rateOfHollow() {
        check.says("HOLLOW up, and how many MEN are ordered there (100000).");
        DuskStones x = Check.told("h2 5 0 9;h2 0 0 2;m1;m1;m1;");
        check.due("nobody", x.rate(5, 0), 9);
        for (int m = 0; m < 3; m++) {
            x.order(m, 0);
            check.due("ordered there: " + (m + 1), x.rate(5, 0), 10 + m);
            check.due("ordered to the other: 0", x.rate(5, 1), 2);
        }
        x.order(1, 1);
        check.due("two, one to the other", x.rate(5, 0) + 100 * x.rate(5, 1), 11 + 300);
        x.order(0, NONE);
        check.due("one, one to none", x.rate(5, 0), 10);
    }

    private static void rateAsked() {
        check.says("RATE. NO: BAD.");
        DuskStones x = Check.told("h2 0 0 1;".repeat(4));
        for (int kind = 0; kind < 6; kind++) {
            for (int bad : new int[] {-1, 4, NONE, LEAST, MOST}) {
                check.due("rate(" + kind + ", " + bad + ")", x.rate(kind, bad), NO);
            }
        }
        for (int bad : new int[] {-1, 6, 7, NONE, LEAST, MOST}) {
            check.due("rate(" + bad + ", 0)", x.rate(bad, 0), NO);
            check.due("rate(" + bad + ", 4)", x.rate(bad, 4), NO);
        }
        check.due("what was refused left no trace", x.trace(), 0);
        check.due("rate(0, 3)", x.rate(0, 3), 1);
        check.due("rate(5, 3)", x.rate(5, 3), 1);
    }

    private static void traceOfKinds() {
        check.says("KINDS of STONES are over one another: 0 STONE; 1 ROUND, 2 SPLIT, 5 HOLLOW (each under STONE); "
            + "3 WET (under ROUND); 4 LENT (under SPLIT).");
        check.says("as often as rate() asks that body: each once; \"up\" is what the KIND above does");
        int[] sums = {1, 11, 101, 1011, 10101, 100001};
        for (int kind = 0; kind < 6; kind++) {
            DuskStones x = Check.told("h2 0 0 1;h2 0 0 1;");
            for (int times = 1; times <= 12; times++) {
                x.rate(kind, times % 2);
                check.due("KIND " + kind + " asked " + times + " times", x.trace(), (long) times * sums[kind]);
            }
        }
    }

    private static void traceAtFirst() {
        check.says("(numbers in brackets are added to THE TRACE, 0 at first");
        check.says("`long trace()`: THE TRACE.");
        DuskStones x = new DuskStones();
        check.due("a new object", x.trace(), 0);
        x.rate(0, 0);
        check.due("behind a refusal", x.trace(), 0);
        Check.type(x, "h2 0 0 1;");
        x.hills();
        check.due("behind a text", x.trace(), 0);
        for (int i = 0; i < 400; i++) {
            x.rate(5, 0);
        }
        check.due("asked 400 times", x.trace(), 40000400L);
        check.due("trace() leaves it", x.trace(), 40000400L);
    }

    private static void keepAsked() {
        check.says("An IMAGE is kept: the DAY. BAD.");
        DuskStones x = Check.told("h9 0 510 1;m9;o1;");
        for (int bad : new int[] {-1, 2, NONE, LEAST, MOST}) {
            check.due("keep(" + bad + ")", x.keep(bad), BAD);
        }
        check.due("nothing was kept", x.back(0), STATE);
        check.due("nor there", x.back(1), STATE);
        check.due("keep(0) on day 0", x.keep(0), 0);
        Check.hours(x, 2);
        check.due("keep(1) on day 2", x.keep(1), 2);
        check.due("what may be UNDONE stays", x.now(4), 2);
        x.hour();
        check.due("keep(0) again, on day 3", x.keep(0), 3);
        x.hour();
        check.due("back(0) to the later one", x.back(0), 3);
        check.due("back(1)", x.back(1), 2);
    }

    private static void backAsked() {
        check.says("All of that becomes as an IMAGE has it: the DAY. BAD; STATE: none was kept.");
        DuskStones x = Check.told("h9 0 510 1;m9;o1;");
        x.order(0, 0);
        for (int bad : new int[] {-1, 2, NONE, LEAST, MOST}) {
            check.due("back(" + bad + ") with none kept", x.back(bad), BAD);
        }
        check.due("back(0) with none kept", x.back(0), STATE);
        check.due("back(1) with none kept", x.back(1), STATE);
        check.due("what may be UNDONE stays", x.now(4), 1);
        x.keep(0);
        check.due("back(1) with the other kept", x.back(1), STATE);
        check.due("what may be UNDONE stays still", x.now(4), 1);
        x.keep(1);
        for (int bad : new int[] {-1, 2, NONE, LEAST, MOST}) {
            check.due("back(" + bad + ") with both kept", x.back(bad), BAD);
        }
        check.due("what may be UNDONE stays even then", x.now(4), 1);
        check.due("back(0)", x.back(0), 0);
        check.due("back(0) again", x.back(0), 0);
    }

    private static void backBringsAll() {
        check.says("IMAGES 0, 1 keep NOW (DAY, HOUR, STONES, ROLLED, MEN, ORDERS, what is WRITTEN DOWN)");
        DuskStones x = Check.told("h9 0 6 3;h5 0 0 1;m9;m4;o2;r4;");
        String[] kept = new String[2];
        x.order(0, 0);
        x.order(1, 1);
        Check.hours(x, 3);
        kept[0] = Picture.brief(x);
        x.keep(0);
        x.order(1, 0);
        x.order(0, NONE);
        Check.hours(x, 4);
        kept[1] = Picture.brief(x);
        x.keep(1);
        x.order(0, 1);
        Check.hours(x, 7);
        check.holds("all differ", !kept[0].equals(kept[1]) && !kept[1].equals(Picture.brief(x)));
        check.due("back(0)", x.back(0), 1);
        check.holds("as image 0 has it", kept[0].equals(Picture.brief(x)));
        check.due("back(1)", x.back(1), 3);
        check.holds("as image 1 has it", kept[1].equals(Picture.brief(x)));
        Check.hours(x, 5);
        check.due("back(0) again", x.back(0), 1);
        check.holds("an image is not changed by hours", kept[0].equals(Picture.brief(x)));
    }

    private static void backBringsNothingElse() {
        check.says("nothing else (nothing can be UNDONE behind back())");
        DuskStones x = Check.told("h9 0 510 1;m9;o1;");
        x.saw(0, 0);
        x.type('m');
        x.rate(0, 0);
        x.keep(0);
        x.saw(0, 1);
        x.type('1');
        x.rate(0, 0);
        x.back(0);
        check.due("SEEN", x.count(5), 2);
        check.due("letters of THE TEXT", x.count(6), 2);
        check.due("THE TRACE", x.trace(), 2);
        x.forget();
        x.clear();
        x.back(0);
        check.due("nothing SEEN comes back", x.count(5), 0);
        check.due("no letters come back", x.count(6), 0);
        x.keep(1);
        x.back(0);
        check.due("the other image stays", x.back(1), 0);
    }

    private static void backLeavesNothingUndone() {
        check.says("(nothing can be UNDONE behind back())");
        DuskStones x = Check.told("h9 0 510 1;m9;o1;");
        x.keep(0);
        for (int calls = 0; calls <= 12; calls++) {
            Check.hours(x, calls);
            check.due("what may be UNDONE", x.now(4), Math.min(calls, 10));
            check.due("back(0)", x.back(0), 0);
            check.due("nothing may be", x.now(4), 0);
            check.due("undo()", x.undo(), STATE);
        }
        x.hour();
        check.due("an hour behind back() may be", x.undo(), 0);
        check.due("and nothing ahead of it", x.undo(), STATE);
    }

    private static void imagesAreTwo() {
        check.says("IMAGES 0, 1 keep NOW");
        DuskStones x = Check.told("h9 0 510 1;m9;o1;");
        x.keep(0);
        x.hour();
        x.keep(1);
        x.hour();
        x.undo();
        x.undo();
        check.due("undo() leaves image 1", x.back(1), 1);
        check.due("and image 0", x.back(0), 0);
        check.due("image 1 once more", x.back(1), 1);
    }

    private static void imagesOfEdges() {
        check.says("`int back(int image)`: All of that becomes as an IMAGE has it: the DAY.");
        DuskStones x = new DuskStones();
        check.due("keep(1) without HILLS", x.keep(1), 0);
        Check.hours(x, 5);
        check.due("DAY 1", x.now(0), 1);
        check.due("back(1) without HILLS", x.back(1), 0);
        check.due("no DUSKS", x.now(3), 0);
        DuskStones y = Check.told("h9 0 126 1;m9;o1;");
        y.order(0, 0);
        Check.hours(y, 30);
        y.keep(0);
        Check.hours(y, 69);
        check.due("keep(1) on day 99", y.keep(1), 99);
        check.due("back(0) from day 99", y.back(0), 30);
        for (int i = 0; i < 20; i++) {
            check.due("written(" + i + ", 0) of day 30", y.written(i, 0), (30 - i) % 7);
        }
        check.due("no more than 20", y.written(20, 0), BAD);
        check.due("back(1) to day 99", y.back(1), 99);
        for (int i = 0; i < 20; i++) {
            check.due("written(" + i + ", 0) of day 99", y.written(i, 0), (99 - i) % 7);
        }
        check.due("hour() on day 99", y.hour(), STATE);
    }

    private static void readAnew() {
        check.says("(Read anew: as told, nothing SEEN, IMAGES are gone.)");
        String text = "h9 0 32 3;h3 0 4 1;j0 1 2;m9;m2;o2;r8;";
        DuskStones x = Check.told(text);
        x.order(0, 0);
        x.order(1, 1);
        Check.hours(x, 9);
        check.due("stone 0 has ROLLED", x.stone(0, 2), 8);
        // Stone 0 blocks its second step each day.
        check.due("stone 1 has ROLLED", x.stone(1, 2), 4);
        x.saw(0, 0);
        x.keep(0);
        x.keep(1);
        Check.type(x, text);
        check.due("the same text", x.hills(), 7);
        check.holds("as a new one is", Picture.whole(Check.told(text)).equals(Picture.whole(x)));
        check.due("image 0 is gone", x.back(0), STATE);
        check.due("image 1 is gone", x.back(1), STATE);
        check.due("nothing is to be UNDONE", x.undo(), STATE);
        check.due("nothing is SEEN", x.forget(), 0);
        x.keep(0);
        x.saw(0, 0);
        check.due("an empty text", x.hills(), 0);
        check.holds("as a new object", Picture.whole(new DuskStones()).equals(Picture.whole(x)));
        check.due("image 0 is gone again", x.back(0), STATE);
    }

    private static void faultKeepsImages() {
        check.says("-10 less FAULT: nothing changes.");
        DuskStones x = Check.told("h9 0 510 1;m9;o1;");
        x.order(0, 0);
        Check.hours(x, 2);
        x.keep(1);
        x.hour();
        x.saw(0, 3);
        Check.type(x, "h2 0 0 1;m0;");
        check.due("a fault", x.hills(), -20);
        check.due("what is SEEN", x.count(5), 1);
        check.due("EVENING", x.evening(), 1);
        check.due("what may be UNDONE", x.undo(), 3);
        check.due("image 1", x.back(1), 2);
        check.due("its step", x.stone(0, 0), 2);
        check.due("none in image 0", x.back(0), STATE);
    }
}
