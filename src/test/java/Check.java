/** Counts answers that are not the ones due, and makes objects that a text has been told to. */
final class Check {
    private final String name;
    private int asked;
    private int wrong;

    Check(String name) {
        this.name = name;
    }

    void due(String what, long got, long want) {
        asked++;
        if (got != want) {
            wrong++;
            System.out.println(name + ": " + what + " answered " + got + ", due is " + want);
        }
    }

    void holds(String what, boolean is) {
        due(what, is ? 1 : 0, 1);
    }

    void finish() {
        System.out.println(name + ": " + asked + " answers, " + wrong + " of them wrong");
        if (wrong != 0 || asked == 0) {
            System.exit(1);
        }
    }

    static void type(DuskStones x, String text) {
        for (int i = 0; i < text.length(); i++) {
            x.type(text.charAt(i));
        }
    }

    /** A new object whose hills were read from a text that has no fault. */
    static DuskStones told(String text) {
        DuskStones x = new DuskStones();
        type(x, text);
        int items = x.hills();
        if (items < 0) {
            throw new IllegalArgumentException("this text has a fault: " + text + ": " + items);
        }
        return x;
    }

    static void hours(DuskStones x, int times) {
        for (int i = 0; i < times; i++) {
            x.hour();
        }
    }
}
