/** Objects in states worth asking about, made alike each time, and whether two of them are alike. */
final class Twins {
    private Twins() { }

    /** Two hills, two men; a day, dusks, images, things seen, a trace, letters and ten calls to undo. */
    static DuskStones used() {
        DuskStones x = Check.told("h9 1 30 5;h3 0 6 3;j0 1 2;m7;m4;o3;r4;");
        x.order(0, 0);
        x.order(1, 1);
        Check.hours(x, 4);
        x.keep(0);
        x.order(1, 0);
        Check.hours(x, 4);
        x.keep(1);
        x.order(0, 1);
        Check.hours(x, 2);
        x.saw(0, 0);
        x.saw(1, 0);
        x.rate(4, 1);
        Check.type(x, "m3;o2");
        return x;
    }

    static DuskStones lastDay() {
        DuskStones x = Check.told("h9 0 126 5;h2 0 6 1;m7;m4;o1;");
        x.order(0, 0);
        Check.hours(x, 50);
        x.keep(1);
        x.order(1, 1);
        Check.hours(x, 49);
        return x;
    }

    /** A text of 200 letters, and 6 that are SEEN. */
    static DuskStones full() {
        DuskStones x = Check.told("h9 0 126 5;h2 0 6 1;m7;m4;o1;");
        x.order(0, 0);
        Check.hours(x, 4);
        for (int i = 0; i < 6; i++) {
            x.saw(0, 2);
        }
        Check.type(x, "m2;".repeat(3) + " ".repeat(191));
        return x;
    }

    /** All that can be asked, all that is undone, both images, and the text. */
    static void alike(Check check, String when, DuskStones x, DuskStones y) {
        check.holds(when + ": all as it was", Picture.whole(x).equals(Picture.whole(y)));
        for (int i = 0; i < 11; i++) {
            check.due(when + ": undo()", x.undo(), y.undo());
            check.due(when + ": the DAY behind undo()", x.now(0), y.now(0));
            check.due(when + ": its HOUR", x.now(1), y.now(1));
            check.due(when + ": an ORDER", x.man(0, 2), y.man(0, 2));
        }
        check.holds(when + ": as it was ahead of ten calls", Picture.brief(x).equals(Picture.brief(y)));
        for (int image = 0; image < 2; image++) {
            check.due(when + ": image " + image, x.back(image), y.back(image));
            check.holds(when + ": all of image " + image, Picture.brief(x).equals(Picture.brief(y)));
        }
        check.due(when + ": the text goes on", x.type(';'), y.type(';'));
        check.due(when + ": the text is read", x.hills(), y.hills());
        check.holds(when + ": as it tells", Picture.brief(x).equals(Picture.brief(y)));
    }
}
