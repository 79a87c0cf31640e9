import java.util.Random;

/** Long runs of calls, the same each time, answered by the program as by the plain model. */
public final class ModelTest {
    private static final Check check = new Check("ModelTest");
    private static final int RUNS = 400, CALLS = 512;
    private static final int NONE = DuskStones.NONE;

    private final Random random;
    private final DuskStones x = new DuskStones();
    private final PlainModel y = new PlainModel();
    private final String name;
    private int calls;

    private ModelTest(int run) {
        random = new Random(run);
        name = "run " + run + ", call ";
    }

    public static void main(String[] args) {
        for (int run = 0; run < RUNS; run++) {
            new ModelTest(run).go();
        }
        check.finish();
    }

    private void go() {
        while (calls < CALLS - 220) {
            tell(text());
            int quietCalls = 60 + random.nextInt(200);
            for (int i = 0; i < quietCalls && calls < CALLS; i++) {
                call();
            }
        }
        while (calls < CALLS) {
            call();
        }
    }

    private void due(String call, long got, long want) {
        calls++;
        check.due(name + calls + ": " + call, got, want);
    }

    private void tell(String text) {
        for (int i = 0; i < text.length(); i++) {
            due("type(" + (int) text.charAt(i) + ")", x.type(text.charAt(i)), y.type(text.charAt(i)));
        }
        due("hills() of " + text, x.hills(), y.hills());
        due("count(0)", x.count(0), y.count(0));
        if (random.nextInt(2) == 0) {
            due("clear()", x.clear(), y.clear());
        }
    }

    private int from(int least, int most) {
        return least + random.nextInt(most - least + 1);
    }

    /** A text that mostly has no fault, at times with a letter gone astray. */
    private String text() {
        StringBuilder text = new StringBuilder();
        int hills = from(1, 4);
        boolean light = random.nextBoolean();
        for (int h = 0; h < hills; h++) {
            int ledges = random.nextInt(3) == 0 ? from(0, 511) : from(0, 511) | from(0, 511);
            text.append('h').append(from(2, random.nextBoolean() ? 5 : 9)).append(' ')
                .append(light ? from(0, 1) : from(0, 5)).append(' ').append(ledges).append(' ')
                .append(light ? from(1, 4) : from(1, 9)).append(';');
        }
        for (int j = hills < 2 ? 0 : from(0, 4); j > 0; j--) {
            int a = random.nextInt(hills);
            int b = (a + from(1, hills - 1)) % hills;
            text.append('j').append(a).append(' ').append(b).append(' ').append(from(1, 4)).append(';');
        }
        for (int m = from(0, 9) == 0 ? 0 : from(1, 3); m > 0; m--) {
            text.append('m').append(from(1, 9)).append(';');
        }
        if (random.nextInt(4) != 0) {
            text.append('o').append(random.nextInt(12) == 0 ? from(5, 6) : from(1, 4)).append(';');
        }
        if (random.nextBoolean()) {
            text.append('r').append(from(0, 127)).append(';');
        }
        if (random.nextInt(6) == 0) {
            String stray = "hjmor;0123456789 x";
            text.setCharAt(random.nextInt(text.length()), stray.charAt(random.nextInt(stray.length())));
        }
        return text.toString();
    }

    private int someHill() {
        return random.nextInt(25) == 0 ? from(-2, 5) : random.nextInt(Math.max(1, y.count(0)));
    }

    private int someMan() {
        return random.nextInt(25) == 0 ? from(-2, 4) : random.nextInt(Math.max(1, y.count(2)));
    }

    private void call() {
        int kind = random.nextInt(100);
        if (kind < 36) {
            due("hour()", x.hour(), y.hour());
        } else if (kind < 50) {
            int m = someMan();
            int h = random.nextInt(8) == 0 ? NONE : someHill();
            due("order(" + m + ", " + h + ")", x.order(m, h), y.order(m, h));
        } else if (kind < 64) {
            look();
        } else if (kind < 80) {
            ask();
        } else if (kind < 92) {
            askEvenings();
        } else {
            goBack();
        }
    }

    private void look() {
        int h = someHill();
        int m = someMan();
        int what = from(-1, 7);
        switch (random.nextInt(6)) {
            case 0: due("hill(" + h + ", " + what + ")", x.hill(h, what), y.hill(h, what)); break;
            case 1: due("man(" + m + ", " + what + ")", x.man(m, what), y.man(m, what)); break;
            case 2: due("now(" + what + ")", x.now(what), y.now(what)); break;
            case 3: due("count(" + what + ")", x.count(what), y.count(what)); break;
            default: due("stone(" + h + ", " + what + ")", x.stone(h, what), y.stone(h, what)); break;
        }
    }

    private void ask() {
        int h = someHill();
        // The model tries each row, so that many hours are asked about seldom.
        boolean dear = y.count(2) == 3 && y.count(3) - y.now(1) > 4 && random.nextInt(10) != 0;
        switch (random.nextInt(dear ? 4 : 6)) {
            case 0: due("days(" + h + ")", x.days(h), y.days(h)); break;
            case 1: due("little(" + h + ")", x.little(h), y.little(h)); break;
            case 2: due("crew(" + h + ")", x.crew(h), y.crew(h)); break;
            case 3: due("blocks(" + h + ")", x.blocks(h), y.blocks(h)); break;
            default:
                int i = random.nextInt(3) == 0 ? NONE : from(-1, 6);
                due("highest(" + h + ", " + i + ")", x.highest(h, i), y.highest(h, i));
                break;
        }
    }

    private void askEvenings() {
        int h = someHill();
        int n = random.nextInt(12) == 0 ? from(-1, 5) : from(1, 4);
        int p = random.nextInt(12) == 0 ? from(-1, 11) : from(0, 10);
        int step = random.nextInt(12) == 0 ? from(-1, 11) : from(0, 3);
        int what = random.nextInt(12) == 0 ? from(-1, 2) : from(0, 1);
        switch (random.nextInt(8)) {
            case 0: due("saw(" + h + ", " + step + ")", x.saw(h, step), y.saw(h, step)); break;
            case 1: due("forget()", x.forget(), y.forget()); break;
            case 2: due("evening()", x.evening(), y.evening()); break;
            case 3: due("wear(" + h + ", " + step + ")", x.wear(h, step), y.wear(h, step)); break;
            case 4:
                int i = from(-1, random.nextBoolean() ? 3 : 20);
                due("written(" + i + ", " + h + ")", x.written(i, h), y.written(i, h));
                break;
            case 5:
                int kind = from(-1, 6);
                due("rate(" + kind + ", " + h + ")", x.rate(kind, h), y.rate(kind, h));
                due("trace()", x.trace(), y.trace());
                break;
            default:
                due("odds(" + h + ", " + n + ", " + p + ", " + what + ")",
                    x.odds(h, n, p, what), y.odds(h, n, p, what));
                break;
        }
    }

    private void goBack() {
        int image = random.nextInt(8) == 0 ? from(-1, 2) : from(0, 1);
        switch (random.nextInt(7)) {
            case 0: due("keep(" + image + ")", x.keep(image), y.keep(image)); break;
            case 1:
                if (random.nextInt(2) == 0) {
                    due("back(" + image + ")", x.back(image), y.back(image));
                }
                break;
            default: due("undo()", x.undo(), y.undo()); break;
        }
    }
}
