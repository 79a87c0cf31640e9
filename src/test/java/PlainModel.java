import java.math.BigInteger;
import java.util.ArrayDeque;
import java.util.ArrayList;
import java.util.Arrays;
import java.util.Deque;
import java.util.List;
import java.util.regex.Matcher;
import java.util.regex.Pattern;

/**
 * The document once more, in the plainest and slowest way, with the Java library: all rows of men
 * are tried, all rains, all sizes. It shares no code with the program that is tested by it.
 */
final class PlainModel {
    private static final int BAD = -1, STATE = -2, FULL = -3, NONE = -9, NO = -1000000;

    private record Hill(int high, int slope, int ledges, int size) { }

    private record Join(int a, int b, int from) { }

    private record Sight(int hill, int step) { }

    private static final class World {
        int day;
        int hour;
        int[] step;
        int[] rolled;
        int[] strength;
        int[] order;
        List<int[]> dusks = new ArrayList<>();

        World copy() {
            World w = new World();
            w.day = day;
            w.hour = hour;
            w.step = step.clone();
            w.rolled = rolled.clone();
            w.strength = strength.clone();
            w.order = order.clone();
            w.dusks = new ArrayList<>(dusks);
            return w;
        }
    }

    private static final class Fault extends Exception {
        private static final long serialVersionUID = 1L;
        final int place;

        Fault(int place) {
            this.place = place;
        }
    }

    private final StringBuilder text = new StringBuilder();
    private List<Hill> hills = new ArrayList<>();
    private List<Join> joins = new ArrayList<>();
    private List<Integer> men = new ArrayList<>();
    private int hours = 4;
    private int rain = 0;
    private World world = begun();
    private final Deque<World> past = new ArrayDeque<>();
    private final World[] images = new World[2];
    private final List<Sight> seen = new ArrayList<>();
    private long trace = 0;

    private World begun() {
        World w = new World();
        w.step = new int[hills.size()];
        w.rolled = new int[hills.size()];
        w.strength = men.stream().mapToInt(i -> i).toArray();
        w.order = new int[men.size()];
        Arrays.fill(w.order, NONE);
        return w;
    }

    private boolean noHill(int h) {
        return h < 0 || h >= hills.size();
    }

    // ---- the hills

    int type(int letter) {
        if (letter < 0 || letter > 255) {
            return BAD;
        }
        if (text.length() == 200) {
            return FULL;
        }
        text.append((char) letter);
        return text.length();
    }

    int clear() {
        int had = text.length();
        text.setLength(0);
        return had;
    }

    private record Token(String what, int place) { }

    private List<Token> tokens() {
        List<Token> all = new ArrayList<>();
        Matcher m = Pattern.compile("[0-9]+|[^ ]", Pattern.DOTALL).matcher(text);
        while (m.find()) {
            all.add(new Token(m.group(), m.start()));
        }
        return all;
    }

    private static int number(Deque<Token> rest, int length, int least, int most) throws Fault {
        if (rest.isEmpty()) {
            throw new Fault(length);
        }
        Token t = rest.pop();
        if (!t.what.matches("0|[1-9][0-9]{0,2}")) {
            throw new Fault(t.place);
        }
        int n = Integer.parseInt(t.what);
        if (n < least || n > most) {
            throw new Fault(t.place);
        }
        return n;
    }

    int hills() {
        List<Hill> h = new ArrayList<>();
        List<Join> j = new ArrayList<>();
        List<Integer> m = new ArrayList<>();
        int[] once = {-1, -1};
        int items = 0;
        Deque<Token> rest = new ArrayDeque<>(tokens());
        int length = text.length();
        try {
            while (!rest.isEmpty()) {
                Token t = rest.pop();
                if (t.what.equals("h") && h.size() < 4) {
                    h.add(new Hill(number(rest, length, 2, 9), number(rest, length, 0, 5),
                        number(rest, length, 0, 511), number(rest, length, 1, 9)));
                } else if (t.what.equals("j") && j.size() < 4) {
                    int a = number(rest, length, 0, h.size() - 1);
                    int place = rest.isEmpty() ? length : rest.peek().place;
                    int b = number(rest, length, 0, h.size() - 1);
                    if (a == b) {
                        throw new Fault(place);
                    }
                    j.add(new Join(a, b, number(rest, length, 1, 9)));
                } else if (t.what.equals("m") && m.size() < 3) {
                    m.add(number(rest, length, 1, 9));
                } else if (t.what.equals("o") && once[0] < 0) {
                    once[0] = number(rest, length, 1, 6);
                } else if (t.what.equals("r") && once[1] < 0) {
                    once[1] = number(rest, length, 0, 127);
                } else {
                    throw new Fault(t.place);
                }
                if (rest.isEmpty()) {
                    throw new Fault(length);
                }
                Token end = rest.pop();
                if (!end.what.equals(";")) {
                    throw new Fault(end.place);
                }
                items++;
            }
        } catch (Fault f) {
            return -10 - f.place;
        }
        hills = h;
        joins = j;
        men = m;
        hours = once[0] < 0 ? 4 : once[0];
        rain = once[1] < 0 ? 0 : once[1];
        text.setLength(0);
        world = begun();
        past.clear();
        seen.clear();
        Arrays.fill(images, null);
        return items;
    }

    int hill(int h, int what) {
        if (noHill(h) || what < 0 || what > 3) {
            return BAD;
        }
        Hill it = hills.get(h);
        return new int[] {it.high, it.slope, it.ledges, it.size}[what];
    }

    private int sizeNow(World w, int h) {
        int size = hills.get(h).size - w.rolled[h] / 8;
        return size < 1 ? 1 : size;
    }

    private boolean over(World w, int h) {
        return w.step[h] == hills.get(h).high;
    }

    int stone(int h, int what) {
        if (noHill(h) || what < 0 || what > 3) {
            return BAD;
        }
        return new int[] {world.step[h], sizeNow(world, h), world.rolled[h], over(world, h) ? 1 : 0}[what];
    }

    int man(int m, int what) {
        if (m < 0 || m >= men.size() || what < 0 || what > 2) {
            return BAD;
        }
        return new int[] {men.get(m), world.strength[m], world.order[m]}[what];
    }

    int now(int what) {
        int bits = 0;
        for (int h = 0; h < hills.size(); h++) {
            bits += over(world, h) ? 1 << h : 0;
        }
        return what < 0 || what > 4 ? BAD
            : new int[] {world.day, world.hour, bits, world.dusks.size(), past.size()}[what];
    }

    // ---- work

    private void remember() {
        past.push(world.copy());
        if (past.size() > 10) {
            past.removeLast();
        }
    }

    int order(int m, int h) {
        if (m < 0 || m >= men.size() || (h != NONE && noHill(h))) {
            return BAD;
        }
        remember();
        int was = world.order[m];
        world.order[m] = h;
        return was;
    }

    private int blockers(World w, int h) {
        int bits = 0;
        int next = w.step[h] + 1;
        for (Join j : joins) {
            int other = j.a == h ? j.b : j.b == h ? j.a : -1;
            if (other >= 0 && j.from <= next && w.step[other] == next && !over(w, other)) {
                bits |= 1 << other;
            }
        }
        return bits;
    }

    private int work(World w) {
        boolean[] wasOver = new boolean[hills.size()];
        for (int h = 0; h < hills.size(); h++) {
            wasOver[h] = over(w, h);
        }
        int came = 0;
        for (int h = 0; h < hills.size(); h++) {
            int sum = 0;
            for (int m = 0; m < men.size(); m++) {
                sum += w.order[m] == h ? w.strength[m] : 0;
            }
            if (!over(w, h) && sum >= sizeNow(w, h) + hills.get(h).slope && blockers(w, h) == 0) {
                w.step[h]++;
                came++;
            }
        }
        for (int m = 0; m < men.size(); m++) {
            if (w.order[m] != NONE && !wasOver[w.order[m]]) {
                w.strength[m] = Math.max(w.strength[m] - 1, 0);
            } else {
                w.strength[m] = Math.min(w.strength[m] + 1, men.get(m));
            }
        }
        w.hour++;
        return came;
    }

    private void dusk(World w, boolean wet) {
        for (int h = 0; h < hills.size(); h++) {
            if (over(w, h) || w.step[h] == 0) {
                continue;
            }
            boolean ledge = (hills.get(h).ledges & (1 << w.step[h])) != 0;
            if (!ledge || wet) {
                w.rolled[h] += w.step[h];
                w.step[h] = 0;
            }
        }
        for (int m = 0; m < men.size(); m++) {
            w.strength[m] = men.get(m);
        }
        w.dusks.add(0, w.step.clone());
        if (w.dusks.size() > 20) {
            w.dusks.remove(20);
        }
        w.day++;
        w.hour = 0;
    }

    private boolean wet(World w) {
        return (rain & (1 << (w.day % 7))) != 0;
    }

    int hour() {
        if (world.day == 99) {
            return STATE;
        }
        remember();
        int came = work(world);
        if (world.hour == hours) {
            dusk(world, wet(world));
        }
        return came;
    }

    int undo() {
        if (past.isEmpty()) {
            return STATE;
        }
        world = past.pop();
        return past.size();
    }

    // ---- what can be

    int highest(int h, int i) {
        if (noHill(h) || (i != NONE && i < 0)) {
            return BAD;
        }
        int left = hours - world.hour;
        if (i >= left) {
            return -5;
        }
        int best = -1;
        int bestRow = 0;
        int all = 1 << men.size();
        int rows = (int) Math.pow(all, left);
        // The first hour is the uppermost digit, so that rows come in their order.
        for (int row = 0; row < rows; row++) {
            World w = world.copy();
            for (int k = 0; k < left; k++) {
                int crew = row / (int) Math.pow(all, left - 1 - k) % all;
                for (int m = 0; m < men.size(); m++) {
                    w.order[m] = (crew >> m & 1) == 1 ? h : NONE;
                }
                work(w);
            }
            if (w.step[h] > best) {
                best = w.step[h];
                bestRow = row;
            }
        }
        return i == NONE ? best : bestRow / (int) Math.pow(all, left - 1 - i) % all;
    }

    private World allAt(int h) {
        World w = world.copy();
        Arrays.fill(w.order, h);
        return w;
    }

    int days(int h) {
        if (noHill(h)) {
            return BAD;
        }
        World w = allAt(h);
        for (int dusks = 0; dusks <= 60; dusks++) {
            if (over(w, h)) {
                return dusks;
            }
            while (w.hour < hours) {
                work(w);
            }
            dusk(w, wet(w));
        }
        return NONE;
    }

    int little(int h) {
        if (noHill(h)) {
            return BAD;
        }
        if (over(world, h)) {
            return STATE;
        }
        Hill told = hills.get(h);
        for (int size = 9; size >= 1; size--) {
            World w = allAt(h);
            w.rolled[h] = 0;
            hills.set(h, new Hill(told.high, told.slope, told.ledges, size));
            while (w.hour < hours) {
                work(w);
            }
            hills.set(h, told);
            if (over(w, h)) {
                return size;
            }
        }
        return NONE;
    }

    int crew(int h) {
        if (noHill(h)) {
            return BAD;
        }
        for (int few = 0; few <= men.size(); few++) {
            for (int bits = 0; bits < 1 << men.size(); bits++) {
                int sum = 0;
                for (int m = 0; m < men.size(); m++) {
                    sum += (bits >> m & 1) * men.get(m);
                }
                if (Integer.bitCount(bits) == few && sum >= sizeNow(world, h) + hills.get(h).slope) {
                    return bits;
                }
            }
        }
        return NONE;
    }

    int blocks(int h) {
        return noHill(h) ? BAD : over(world, h) ? 0 : blockers(world, h);
    }

    // ---- evenings, rain, wear

    int written(int i, int h) {
        return i < 0 || i >= world.dusks.size() || noHill(h) ? BAD : world.dusks.get(i)[h];
    }

    int saw(int h, int step) {
        if (noHill(h) || step < 0 || step > 9) {
            return BAD;
        }
        if (seen.size() == 6) {
            return FULL;
        }
        seen.add(new Sight(h, step));
        return seen.size();
    }

    int forget() {
        int had = seen.size();
        seen.clear();
        return had;
    }

    int evening() {
        int bits = 0;
        for (int i = 0; i < world.dusks.size(); i++) {
            int[] steps = world.dusks.get(i);
            bits |= seen.stream().allMatch(s -> steps[s.hill] == s.step) ? 1 << i : 0;
        }
        return bits;
    }

    /** In parts of 10 to the n. */
    private BigInteger parts(World w, int h, int n, int p) {
        if (over(w, h)) {
            return BigInteger.TEN.pow(n);
        }
        if (n == 0) {
            return BigInteger.ZERO;
        }
        World day = w.copy();
        while (day.hour < hours) {
            work(day);
        }
        World wet = day.copy();
        dusk(wet, true);
        World dry = day.copy();
        dusk(dry, false);
        return parts(wet, h, n - 1, p).multiply(BigInteger.valueOf(p))
            .add(parts(dry, h, n - 1, p).multiply(BigInteger.valueOf(10 - p)));
    }

    long odds(int h, int n, int p, int what) {
        if (noHill(h) || n < 1 || n > 4 || p < 0 || p > 10 || (what != 0 && what != 1)) {
            return BAD;
        }
        BigInteger upper = parts(allAt(h), h, n, p);
        BigInteger lower = BigInteger.TEN.pow(n);
        return (what == 0 ? upper : lower).divide(upper.gcd(lower)).longValueExact();
    }

    int wear(int h, int step) {
        if (noHill(h) || step < 1 || step > 9) {
            return BAD;
        }
        World w = world.copy();
        int times = 0;
        while (sizeNow(w, h) > 1) {
            w.rolled[h] += step;
            times++;
        }
        return times;
    }

    // ---- kinds, images

    int rate(int kind, int h) {
        if (kind < 0 || kind > 5 || noHill(h)) {
            return NO;
        }
        int[] added = {1, 11, 101, 1011, 10101, 100001};
        trace += added[kind];
        int size = sizeNow(world, h);
        int split = size - hills.get(h).slope;
        int there = (int) Arrays.stream(world.order).filter(o -> o == h).count();
        int[] rates = {size, size + world.step[h], split, 2 * (size + world.step[h]), split + h, size + there};
        return rates[kind];
    }

    int keep(int image) {
        if (image != 0 && image != 1) {
            return BAD;
        }
        images[image] = world.copy();
        return world.day;
    }

    int back(int image) {
        if (image != 0 && image != 1) {
            return BAD;
        }
        if (images[image] == null) {
            return STATE;
        }
        world = images[image].copy();
        past.clear();
        return world.day;
    }

    int count(int what) {
        return what < 0 || what > 6 ? BAD
            : new int[] {hills.size(), joins.size(), men.size(), hours, rain, seen.size(), text.length()}[what];
    }

    long trace() {
        return trace;
    }
}
