/** All that an object answers without being changed by it, as a text. */
final class Picture {
    private Picture() { }

    /** What hours and orders change. */
    static String brief(DuskStones x) {
        StringBuilder all = new StringBuilder();
        add(all, x.now(0), x.now(1), x.now(2), x.now(3));
        int hills = x.count(0);
        int men = x.count(2);
        for (int h = 0; h < hills; h++) {
            add(all, x.stone(h, 0), x.stone(h, 2), x.written(0, h));
        }
        for (int m = 0; m < men; m++) {
            add(all, x.man(m, 1), x.man(m, 2));
        }
        return all.toString();
    }

    static String whole(DuskStones x) {
        StringBuilder all = new StringBuilder(brief(x));
        for (int what = 0; what < 7; what++) {
            add(all, x.count(what));
        }
        add(all, x.now(4), x.evening(), x.trace());
        int hills = x.count(0);
        int men = x.count(2);
        int dusks = x.now(3);
        for (int h = 0; h < hills; h++) {
            add(all, x.hill(h, 0), x.hill(h, 1), x.hill(h, 2), x.hill(h, 3), x.stone(h, 1), x.stone(h, 3));
            add(all, x.highest(h, DuskStones.NONE), x.days(h), x.little(h), x.crew(h), x.blocks(h));
            add(all, x.odds(h, 3, 4, 0), x.wear(h, 1), x.written(dusks - 1, h));
        }
        for (int m = 0; m < men; m++) {
            add(all, x.man(m, 0));
        }
        return all.toString();
    }

    private static void add(StringBuilder all, long... answers) {
        for (long answer : answers) {
            all.append(answer).append(' ');
        }
    }
}
