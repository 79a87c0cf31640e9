import java.util.ArrayList;
import java.util.List;
import java.util.function.Supplier;
import java.util.function.ToLongFunction;

/**
 * Each refused call, with its answer and with what must stay as it was: of two objects that were used
 * alike, one is asked what is refused; both must answer alike from then on.
 */
public final class RefusedTest {
    private static final Check check = new Check("RefusedTest");
    private static final int BAD = DuskStones.BAD, STATE = DuskStones.STATE, FULL = DuskStones.FULL;
    private static final int NONE = DuskStones.NONE, NO = DuskStones.NO;
    private static final int LEAST = Integer.MIN_VALUE, MOST = Integer.MAX_VALUE;
    private static final int[] NO_HILL = {-1, 2, 3, NONE, LEAST, MOST};

    private record Refusal(String call, ToLongFunction<DuskStones> made, long answer) { }

    private static final List<Refusal> everywhere = new ArrayList<>();

    public static void main(String[] args) {
        check.says("Refused, and nothing changes, the first of these: BAD (a number is not as told, or there is no such "
            + "thing), STATE (as told), FULL.");
        refusedOfHills();
        refusedOfOthers();
        refusedOfText();
        for (Refusal r : everywhere) {
            leaves("used", Twins::used, r);
            leaves("new", DuskStones::new, r);
            leaves("on the last day", Twins::lastDay, r);
            leaves("full", Twins::full, r);
        }
        refusedByState();
        refusedByFull();
        refusedByFault();
        badIsFirst();
        questionsChangeNothing();
        lastCalls();
        check.finish();
    }

    private static void bad(String call, ToLongFunction<DuskStones> made) {
        everywhere.add(new Refusal(call, made, BAD));
    }

    private static void refusedOfHills() {
        for (int h : NO_HILL) {
            bad("hill(" + h + ", 0)", x -> x.hill(h, 0));
            bad("stone(" + h + ", 0)", x -> x.stone(h, 0));
            if (h != NONE) {
                bad("order(0, " + h + ")", x -> x.order(0, h));
            }
            bad("highest(" + h + ", NONE)", x -> x.highest(h, NONE));
            bad("highest(" + h + ", 0)", x -> x.highest(h, 0));
            bad("days(" + h + ")", x -> x.days(h));
            bad("little(" + h + ")", x -> x.little(h));
            bad("crew(" + h + ")", x -> x.crew(h));
            bad("blocks(" + h + ")", x -> x.blocks(h));
            bad("written(0, " + h + ")", x -> x.written(0, h));
            bad("saw(" + h + ", 0)", x -> x.saw(h, 0));
            bad("odds(" + h + ", 1, 0, 0)", x -> x.odds(h, 1, 0, 0));
            bad("wear(" + h + ", 1)", x -> x.wear(h, 1));
            everywhere.add(new Refusal("rate(0, " + h + ")", x -> x.rate(0, h), NO));
            everywhere.add(new Refusal("rate(3, " + h + ")", x -> x.rate(3, h), NO));
        }
    }

    private static void refusedOfOthers() {
        for (int far : new int[] {-1, NONE, LEAST, MOST}) {
            bad("man(" + far + ", 0)", x -> x.man(far, 0));
            bad("order(" + far + ", 0)", x -> x.order(far, 0));
            bad("order(" + far + ", NONE)", x -> x.order(far, NONE));
            bad("hill(0, " + far + ")", x -> x.hill(0, far));
            bad("stone(0, " + far + ")", x -> x.stone(0, far));
            bad("man(0, " + far + ")", x -> x.man(0, far));
            bad("now(" + far + ")", x -> x.now(far));
            bad("count(" + far + ")", x -> x.count(far));
            bad("written(" + far + ", 0)", x -> x.written(far, 0));
            bad("saw(0, " + far + ")", x -> x.saw(0, far));
            bad("odds(0, " + far + ", 0, 0)", x -> x.odds(0, far, 0, 0));
            bad("odds(0, 1, " + far + ", 0)", x -> x.odds(0, 1, far, 0));
            bad("odds(0, 1, 0, " + far + ")", x -> x.odds(0, 1, 0, far));
            bad("wear(0, " + far + ")", x -> x.wear(0, far));
            bad("keep(" + far + ")", x -> x.keep(far));
            bad("back(" + far + ")", x -> x.back(far));
            everywhere.add(new Refusal("rate(" + far + ", 0)", x -> x.rate(far, 0), NO));
        }
        bad("man(2, 0)", x -> x.man(2, 0));
        bad("order(2, 0)", x -> x.order(2, 0));
        bad("hill(0, 4)", x -> x.hill(0, 4));
        bad("stone(0, 4)", x -> x.stone(0, 4));
        bad("man(0, 3)", x -> x.man(0, 3));
        bad("now(5)", x -> x.now(5));
        bad("count(7)", x -> x.count(7));
        bad("highest(0, -1)", x -> x.highest(0, -1));
        bad("highest(0, -8)", x -> x.highest(0, -8));
        bad("highest(0, -10)", x -> x.highest(0, -10));
        bad("written(20, 0)", x -> x.written(20, 0));
        bad("saw(0, 10)", x -> x.saw(0, 10));
        bad("odds(0, 0, 0, 0)", x -> x.odds(0, 0, 0, 0));
        bad("odds(0, 5, 0, 0)", x -> x.odds(0, 5, 0, 0));
        bad("odds(0, 1, 11, 0)", x -> x.odds(0, 1, 11, 0));
        bad("odds(0, 1, 0, 2)", x -> x.odds(0, 1, 0, 2));
        bad("wear(0, 0)", x -> x.wear(0, 0));
        bad("wear(0, 10)", x -> x.wear(0, 10));
        bad("keep(2)", x -> x.keep(2));
        bad("back(2)", x -> x.back(2));
        everywhere.add(new Refusal("rate(6, 0)", x -> x.rate(6, 0), NO));
    }

    private static void refusedOfText() {
        for (int letter : new int[] {-1, 256, NONE, LEAST, MOST, 256 + 'm'}) {
            bad("type(" + letter + ")", x -> x.type(letter));
        }
    }

    private static void leaves(String when, Supplier<DuskStones> made, Refusal r) {
        DuskStones x = made.get();
        DuskStones y = made.get();
        check.due(when + ": " + r.call, r.made.applyAsLong(x), r.answer);
        Twins.alike(check, when + ": behind " + r.call, x, y);
    }

    private static void refusedByState() {
        check.says("STATE: it is DAY 99.");
        leaves("on the last day", Twins::lastDay, new Refusal("hour()", DuskStones::hour, STATE));
        check.says("STATE: none.");
        leaves("new", DuskStones::new, new Refusal("undo()", DuskStones::undo, STATE));
        check.says("STATE: it is OVER.");
        leaves("on the last day", Twins::lastDay, new Refusal("little(1)", x -> x.little(1), STATE));
        check.says("STATE: none was kept.");
        leaves("on the last day", Twins::lastDay, new Refusal("back(0)", x -> x.back(0), STATE));
        leaves("new", DuskStones::new, new Refusal("back(0)", x -> x.back(0), STATE));
        leaves("new", DuskStones::new, new Refusal("back(1)", x -> x.back(1), STATE));
    }

    private static void refusedByFull() {
        check.says("comes to THE TEXT: how many it has. BAD; FULL.");
        leaves("full", Twins::full, new Refusal("type('x')", x -> x.type('x'), FULL));
        leaves("full", Twins::full, new Refusal("type(0)", x -> x.type(0), FULL));
        check.says("SEEN: how much there is. BAD; FULL.");
        leaves("full", Twins::full, new Refusal("saw(1, 2)", x -> x.saw(1, 2), FULL));
        leaves("full", Twins::full, new Refusal("saw(0, 9)", x -> x.saw(0, 9), FULL));
    }

    private static void refusedByFault() {
        check.says("-10 less FAULT: nothing changes.");
        leaves("used", Twins::used, new Refusal("hills() of a text that ends too early", DuskStones::hills, -15));
        String[] texts = {"h", "h9 5 0 9;h", "m9;m9;m9;m", "o6;r1;o", "h2 0 0 1;h2 0 0 1;j0 1 1;j0 0 1;", "m9;o1;r127;x"};
        int[] faults = {1, 10, 9, 6, 28, 11};
        for (int i = 0; i < texts.length; i++) {
            String text = texts[i];
            Supplier<DuskStones> made = () -> {
                DuskStones x = Twins.used();
                x.clear();
                Check.type(x, text);
                return x;
            };
            leaves("used", made, new Refusal("hills() of " + text, DuskStones::hills, -10 - faults[i]));
        }
    }

    private static void badIsFirst() {
        check.says("the first of these: BAD");
        DuskStones full = Twins.full();
        check.due("type(256) when full", full.type(256), BAD);
        check.due("saw(2, 0) when full", full.saw(2, 0), BAD);
        check.due("saw(0, 10) when full", full.saw(0, 10), BAD);
        DuskStones fresh = new DuskStones();
        check.due("back(2) with none kept", fresh.back(2), BAD);
        check.due("back(-1) with none kept", fresh.back(-1), BAD);
        DuskStones last = Twins.lastDay();
        check.due("order(2, 0) on the last day", last.order(2, 0), BAD);
        check.due("little(2) with one that is OVER", last.little(2), BAD);
        check.due("order(0, 1) on the last day", last.order(0, 1), 0);
    }

    private static void questionsChangeNothing() {
        check.says("(Nothing is changed.)");
        List<Supplier<DuskStones>> states = List.of(DuskStones::new, Twins::used, Twins::lastDay, Twins::full);
        for (Supplier<DuskStones> made : states) {
            DuskStones x = made.get();
            DuskStones y = made.get();
            for (int h = 0; h < 2; h++) {
                x.highest(h, NONE);
                x.highest(h, 0);
                x.highest(h, 6);
                x.days(h);
                x.little(h);
                x.crew(h);
                x.blocks(h);
                x.evening();
                x.odds(h, 4, 3, 0);
                x.odds(h, 1, 10, 1);
                x.wear(h, 9);
                x.written(0, h);
                x.count(h);
            }
            Twins.alike(check, "behind questions", x, y);
        }
    }

    private static void lastCalls() {
        check.says("An object is used for at most 512 calls after it has been made");
        DuskStones x = new DuskStones();
        for (int call = 1; call <= 511; call++) {
            check.due("call " + call, x.type(' '), call <= 200 ? call : FULL);
        }
        check.due("call 512", x.clear(), 200);
        DuskStones y = Check.told("h2 0 0 1;m9;o6;");
        for (int call = 17; call < 511; call += 2) {
            check.due("call " + call, y.hour(), 0);
            check.due("call " + (call + 1), y.undo(), 0);
        }
        check.due("call 511", y.order(0, 0), NONE);
        check.due("call 512", y.hour(), 1);
    }
}
