/** Hills told by a text, the stones on them, and the men who push; see README.md. */
public final class DuskStones {
    public static final int BAD = -1, STATE = -2, FULL = -3, NONE = -9;
    public static final int NO = -1000000;

    private static final int MOST_HILLS = 4, MOST_JOINS = 4, MOST_MEN = 3;
    private static final int MOST_HOURS = 6, HOURS_AT_FIRST = 4;
    private static final int WEEK = 7, LAST_DAY = 99;
    private static final int MOST_LETTERS = 200, MOST_LETTER = 255;
    private static final int MOST_EVENINGS = 20, MOST_UNDONE = 10, MOST_SEEN = 6, IMAGES = 2;
    private static final int MOST_STEP = 9, MOST_SIZE = 9, STEPS_A_SIZE = 8;
    private static final int MOST_DAYS = 60, MOST_ODDS_DUSKS = 4, TENTHS = 10;
    private static final int NOT_SO_MANY = -5, FAULT_BASE = -10;

    private static final int STONE = 0, ROUND = 1, SPLIT = 2, WET = 3, LENT = 4, HOLLOW = 5;
    // A kind always stands above its own kinds by a lesser number, so asking upward ends at STONE.
    private static final int[] KIND_ABOVE = {STONE, STONE, STONE, ROUND, SPLIT, STONE};
    private static final int[] KIND_TRACE = {1, 10, 100, 1000, 10000, 100000};

    private final char[] text = new char[MOST_LETTERS];
    private int letters;
    private final Reader reader = new Reader(text);
    private Land land = new Land();
    // A text with a fault must change nothing, so it is read into a land aside.
    private Land draft = new Land();
    private final Moment present = new Moment();
    private final Moment trial = new Moment();
    private final Moment[] past = new Moment[MOST_UNDONE];
    private int pastCount;
    private final Moment[] images = new Moment[IMAGES];
    private final boolean[] kept = new boolean[IMAGES];
    private final int[] seenHill = new int[MOST_SEEN];
    private final int[] seenStep = new int[MOST_SEEN];
    private int seenCount;
    private final Climb climb = new Climb();
    private long traceSum;

    public DuskStones() {
        for (int i = 0; i < MOST_UNDONE; i++) {
            past[i] = new Moment();
        }
        for (int i = 0; i < IMAGES; i++) {
            images[i] = new Moment();
        }
        present.begin(land);
    }

    // ---- the hills

    public int type(int letter) {
        if (letter < 0 || letter > MOST_LETTER) {
            return BAD;
        }
        if (letters >= MOST_LETTERS) {
            return FULL;
        }
        text[letters] = (char) letter;
        letters++;
        return letters;
    }

    public int clear() {
        int had = letters;
        letters = 0;
        return had;
    }

    public int hills() {
        int items = reader.readAll(letters, draft);
        if (items < 0) {
            return items;
        }
        Land read = draft;
        draft = land;
        land = read;
        letters = 0;
        present.begin(land);
        pastCount = 0;
        seenCount = 0;
        for (int i = 0; i < IMAGES; i++) {
            kept[i] = false;
        }
        return items;
    }

    public int hill(int h, int what) {
        if (!land.hasHill(h)) {
            return BAD;
        }
        switch (what) {
            case 0: return land.high[h];
            case 1: return land.slope[h];
            case 2: return land.ledges[h];
            case 3: return land.size[h];
            default: return BAD;
        }
    }

    public int stone(int h, int what) {
        if (!land.hasHill(h)) {
            return BAD;
        }
        switch (what) {
            case 0: return present.step[h];
            case 1: return present.sizeNow(land, h);
            case 2: return present.rolled[h];
            case 3: return present.isOver(land, h) ? 1 : 0;
            default: return BAD;
        }
    }

    public int man(int m, int what) {
        if (!land.hasMan(m)) {
            return BAD;
        }
        switch (what) {
            case 0: return land.force[m];
            case 1: return present.strength[m];
            case 2: return present.order[m];
            default: return BAD;
        }
    }

    public int now(int what) {
        switch (what) {
            case 0: return present.day;
            case 1: return present.hour;
            case 2: return present.overBits(land);
            case 3: return present.evenings;
            case 4: return pastCount;
            default: return BAD;
        }
    }

    // ---- work

    public int order(int m, int h) {
        if (!land.hasMan(m) || (h != NONE && !land.hasHill(h))) {
            return BAD;
        }
        remember();
        int was = present.order[m];
        present.order[m] = h;
        return was;
    }

    public int hour() {
        if (present.day >= LAST_DAY) {
            return STATE;
        }
        remember();
        int came = present.passHour(land);
        if (present.hour >= land.hours) {
            present.fallDusk(land, land.rainsOn(present.day));
            present.writeDown(land);
        }
        return came;
    }

    public int undo() {
        if (pastCount <= 0) {
            return STATE;
        }
        pastCount--;
        present.copyFrom(past[pastCount]);
        return pastCount;
    }

    /** Keeps the present for undo(); the oldest known gives its room when there is none left. */
    private void remember() {
        if (pastCount >= MOST_UNDONE) {
            Moment oldest = past[0];
            for (int i = 1; i < MOST_UNDONE; i++) {
                past[i - 1] = past[i];
            }
            past[MOST_UNDONE - 1] = oldest;
            pastCount = MOST_UNDONE - 1;
        }
        past[pastCount].copyFrom(present);
        pastCount++;
    }

    // ---- what can be

    public int highest(int h, int i) {
        if (!land.hasHill(h) || (i < 0 && i != NONE)) {
            return BAD;
        }
        int left = present.hoursLeft(land);
        if (i >= left || i >= MOST_HOURS) {
            return NOT_SO_MANY;
        }
        climb.search(land, present, h);
        return i == NONE ? present.step[h] + climb.best : climb.bestRow[i];
    }

    public int days(int h) {
        if (!land.hasHill(h)) {
            return BAD;
        }
        if (present.isOver(land, h)) {
            return 0;
        }
        allPush(h);
        for (int dusks = 1; dusks <= MOST_DAYS; dusks++) {
            trial.passDay(land);
            if (trial.isOver(land, h)) {
                return dusks;
            }
            trial.fallDusk(land, land.rainsOn(trial.day));
        }
        return NONE;
    }

    public int little(int h) {
        if (!land.hasHill(h)) {
            return BAD;
        }
        if (present.isOver(land, h)) {
            return STATE;
        }
        int needed = land.high[h] - present.step[h];
        if (needed > present.hoursLeft(land) || needed > present.freeSteps(land, h)) {
            return NONE;
        }
        // Who pushes each hour only tires, so if the last step needed can be made, those ahead can.
        int size = present.strengthAfter(land, needed - 1) - land.slope[h];
        return size < 1 ? NONE : Math.min(size, MOST_SIZE);
    }

    public int crew(int h) {
        if (!land.hasHill(h)) {
            return BAD;
        }
        int need = present.needOf(land, h);
        int fewest = NONE;
        for (int men = 1; men < 1 << land.men; men++) {
            boolean fewer = fewest == NONE || Integer.bitCount(men) < Integer.bitCount(fewest);
            if (fewer && land.forceOf(men) >= need) {
                fewest = men;
            }
        }
        return fewest;
    }

    public int blocks(int h) {
        if (!land.hasHill(h)) {
            return BAD;
        }
        return present.isOver(land, h) ? 0 : present.blockersAt(land, h, present.step[h] + 1);
    }

    /** Makes the trial the present, with all men ordered to one hill. */
    private void allPush(int h) {
        trial.copyFrom(present);
        for (int m = 0; m < land.men; m++) {
            trial.order[m] = h;
        }
    }

    // ---- evenings, rain, wear

    public int written(int i, int h) {
        if (i < 0 || i >= present.evenings || !land.hasHill(h)) {
            return BAD;
        }
        return present.writtenStep(i, h);
    }

    public int saw(int h, int step) {
        if (!land.hasHill(h) || step < 0 || step > MOST_STEP) {
            return BAD;
        }
        if (seenCount >= MOST_SEEN) {
            return FULL;
        }
        seenHill[seenCount] = h;
        seenStep[seenCount] = step;
        seenCount++;
        return seenCount;
    }

    public int forget() {
        int had = seenCount;
        seenCount = 0;
        return had;
    }

    public int evening() {
        int bits = 0;
        for (int i = 0; i < present.evenings; i++) {
            if (agrees(i)) {
                bits |= 1 << i;
            }
        }
        return bits;
    }

    public long odds(int h, int n, int p, int what) {
        if (!land.hasHill(h) || n < 1 || n > MOST_ODDS_DUSKS || p < 0 || p > TENTHS || what < 0 || what > 1) {
            return BAD;
        }
        // Rain at the last dusk comes too late to matter, so the dusks ahead of it are asked alone.
        int asked = n - 1;
        long upper = 0;
        for (int rains = 0; rains < 1 << asked; rains++) {
            long weight = rainWeight(asked, p, rains);
            if (weight > 0 && isOverBehind(h, n, rains)) {
                upper += weight;
            }
        }
        long lower = power(TENTHS, asked);
        long common = commonDivisor(lower, upper);
        long part = what == 0 ? upper : lower;
        return common < 1 ? part : part / common;
    }

    public int wear(int h, int step) {
        if (!land.hasHill(h) || step < 1 || step > MOST_STEP) {
            return BAD;
        }
        int lack = STEPS_A_SIZE * (land.size[h] - 1) - present.rolled[h];
        return lack <= 0 ? 0 : (lack + step - 1) / step;
    }

    private boolean agrees(int i) {
        for (int s = 0; s < seenCount; s++) {
            if (present.writtenStep(i, seenHill[s]) != seenStep[s]) {
                return false;
            }
        }
        return true;
    }

    /** How likely these rains are (a bit for each dusk), in parts of 10 to the number of dusks. */
    private static long rainWeight(int dusks, int p, int rains) {
        int wet = Integer.bitCount(rains);
        return power(p, wet) * power(TENTHS - p, dusks - wet);
    }

    private boolean isOverBehind(int h, int dusks, int rains) {
        allPush(h);
        for (int d = 0; d < dusks; d++) {
            trial.passDay(land);
            if (trial.isOver(land, h)) {
                return true;
            }
            trial.fallDusk(land, (rains >> d & 1) == 1);
        }
        return false;
    }

    private static long power(int base, int times) {
        long product = 1;
        for (int i = 0; i < times; i++) {
            product *= base;
        }
        return product;
    }

    private static long commonDivisor(long a, long b) {
        // The second number falls each turn, and by half in two, so 100 turns are far beyond any need.
        for (int turn = 0; turn < 100 && b != 0; turn++) {
            long rest = a % b;
            a = b;
            b = rest;
        }
        return a;
    }

    // ---- kinds, images

    public int rate(int kind, int h) {
        if (kind < STONE || kind > HOLLOW || !land.hasHill(h)) {
            return NO;
        }
        return rateAs(kind, h);
    }

    public int keep(int image) {
        if (image < 0 || image >= IMAGES) {
            return BAD;
        }
        images[image].copyFrom(present);
        kept[image] = true;
        return present.day;
    }

    public int back(int image) {
        if (image < 0 || image >= IMAGES) {
            return BAD;
        }
        if (!kept[image]) {
            return STATE;
        }
        present.copyFrom(images[image]);
        pastCount = 0;
        return present.day;
    }

    public int count(int what) {
        switch (what) {
            case 0: return land.hills;
            case 1: return land.joins;
            case 2: return land.men;
            case 3: return land.hours;
            case 4: return land.rain;
            case 5: return seenCount;
            case 6: return letters;
            default: return BAD;
        }
    }

    public long trace() {
        return traceSum;
    }

    private int rateAs(int kind, int h) {
        traceSum += KIND_TRACE[kind];
        if (kind == STONE) {
            return present.sizeNow(land, h);
        }
        int up = rateAs(KIND_ABOVE[kind], h);
        switch (kind) {
            case ROUND: return up + present.step[h];
            case SPLIT: return up - land.slope[h];
            case WET: return 2 * up;
            case LENT: return up + h;
            default: return up + present.menAt(land, h);
        }
    }

    /** What a text tells; nothing of it changes till a text is read anew. */
    private static final class Land {
        int hills;
        final int[] high = new int[MOST_HILLS];
        final int[] slope = new int[MOST_HILLS];
        final int[] ledges = new int[MOST_HILLS];
        final int[] size = new int[MOST_HILLS];
        int joins;
        final int[] joinA = new int[MOST_JOINS];
        final int[] joinB = new int[MOST_JOINS];
        final int[] joinFrom = new int[MOST_JOINS];
        int men;
        final int[] force = new int[MOST_MEN];
        int hours = HOURS_AT_FIRST;
        int rain;
        boolean hoursTold;
        boolean rainTold;

        void empty() {
            hills = 0;
            joins = 0;
            men = 0;
            hours = HOURS_AT_FIRST;
            rain = 0;
            hoursTold = false;
            rainTold = false;
        }

        boolean hasHill(int h) {
            return h >= 0 && h < hills;
        }

        boolean hasMan(int m) {
            return m >= 0 && m < men;
        }

        boolean rainsOn(int day) {
            return (rain >> day % WEEK & 1) == 1;
        }

        boolean hasLedge(int h, int step) {
            return (ledges[h] >> step & 1) == 1;
        }

        /** Whether two hills are one place at a step. */
        boolean isOnePlace(int a, int b, int step) {
            for (int j = 0; j < joins; j++) {
                boolean same = (joinA[j] == a && joinB[j] == b) || (joinA[j] == b && joinB[j] == a);
                if (same && joinFrom[j] <= step) {
                    return true;
                }
            }
            return false;
        }

        int forceOf(int menBits) {
            int sum = 0;
            for (int m = 0; m < men; m++) {
                if ((menBits >> m & 1) == 1) {
                    sum += force[m];
                }
            }
            return sum;
        }

        void addHill(int[] numbers) {
            if (hills < MOST_HILLS) {
                high[hills] = numbers[0];
                slope[hills] = numbers[1];
                ledges[hills] = numbers[2];
                size[hills] = numbers[3];
                hills++;
            }
        }

        void addJoin(int[] numbers) {
            if (joins < MOST_JOINS) {
                joinA[joins] = numbers[0];
                joinB[joins] = numbers[1];
                joinFrom[joins] = numbers[2];
                joins++;
            }
        }

        void addMan(int itsForce) {
            if (men < MOST_MEN) {
                force[men] = itsForce;
                men++;
            }
        }
    }

    /** Reads a text, token by token; a fault is always at the first letter of the token in hand. */
    private static final class Reader {
        // Tokens that are letters stand for themselves, above these.
        static final int END = 0, WRONG = 1, NUMBER = 2;
        static final int MOST_NUMBER = 511, MOST_NUMBERS = 4;
        static final int[] HILL_LEAST = {2, 0, 0, 1};
        static final int[] HILL_MOST = {9, 5, 511, 9};
        static final int MOST_FROM = 9, MOST_FORCE = 9, MOST_RAIN = 127;

        final char[] text;
        final int[] numbers = new int[MOST_NUMBERS];
        int length;
        int next;
        int place;
        int token;
        int value;

        Reader(char[] text) {
            this.text = text;
        }

        /** How many items were read, or FAULT_BASE less the fault. */
        int readAll(int letters, Land into) {
            length = Math.min(letters, text.length);
            next = 0;
            into.empty();
            for (int items = 0; items <= MOST_LETTERS; items++) {
                take();
                if (token == END) {
                    return items;
                }
                if (!readItem(into)) {
                    break;
                }
            }
            return FAULT_BASE - place;
        }

        boolean readItem(Land into) {
            int letter = token;
            if (!canStand(letter, into)) {
                return false;
            }
            int wanted = numbersOf(letter);
            for (int i = 0; i < wanted; i++) {
                take();
                if (token != NUMBER || !fits(letter, i, into)) {
                    return false;
                }
                numbers[i] = value;
            }
            take();
            if (token != ';') {
                return false;
            }
            addItem(letter, into);
            return true;
        }

        static boolean canStand(int letter, Land into) {
            switch (letter) {
                case 'h': return into.hills < MOST_HILLS;
                case 'j': return into.joins < MOST_JOINS;
                case 'm': return into.men < MOST_MEN;
                case 'o': return !into.hoursTold;
                case 'r': return !into.rainTold;
                default: return false;
            }
        }

        static int numbersOf(int letter) {
            switch (letter) {
                case 'h': return MOST_NUMBERS;
                case 'j': return 3;
                default: return 1;
            }
        }

        /** Whether the number in hand may be the i-th of an item. */
        boolean fits(int letter, int i, Land into) {
            switch (letter) {
                case 'h': return isWithin(HILL_LEAST[i], HILL_MOST[i]);
                case 'j': return fitsJoin(i, into);
                case 'm': return isWithin(1, MOST_FORCE);
                case 'o': return isWithin(1, MOST_HOURS);
                default: return isWithin(0, MOST_RAIN);
            }
        }

        boolean fitsJoin(int i, Land into) {
            switch (i) {
                case 0: return into.hasHill(value);
                case 1: return into.hasHill(value) && value != numbers[0];
                default: return isWithin(1, MOST_FROM);
            }
        }

        boolean isWithin(int least, int most) {
            return value >= least && value <= most;
        }

        void addItem(int letter, Land into) {
            switch (letter) {
                case 'h': into.addHill(numbers); break;
                case 'j': into.addJoin(numbers); break;
                case 'm': into.addMan(numbers[0]); break;
                case 'o':
                    into.hours = numbers[0];
                    into.hoursTold = true;
                    break;
                default:
                    into.rain = numbers[0];
                    into.rainTold = true;
                    break;
            }
        }

        void take() {
            while (next < length && text[next] == ' ') {
                next++;
            }
            place = next;
            if (next >= length) {
                token = END;
            } else if (isDigit(text[next])) {
                takeNumber();
            } else {
                token = isSign(text[next]) ? text[next] : WRONG;
                next++;
            }
        }

        void takeNumber() {
            boolean zeroAhead = next < length && text[next] == '0';
            value = 0;
            while (next < length && isDigit(text[next])) {
                // Beyond the most it may be, it need not grow: it is wrong already.
                if (value <= MOST_NUMBER) {
                    value = value * 10 + (text[next] - '0');
                }
                next++;
            }
            boolean wrong = value > MOST_NUMBER || (zeroAhead && next - place > 1);
            token = wrong ? WRONG : NUMBER;
        }

        static boolean isDigit(char c) {
            return c >= '0' && c <= '9';
        }

        static boolean isSign(char c) {
            return c == 'h' || c == 'j' || c == 'm' || c == 'o' || c == 'r' || c == ';';
        }
    }

    /** All that hours change: what undo() and images bring back. */
    private static final class Moment {
        static final int STEP_BITS = 4, STEP_MASK = 15;

        int day;
        int hour;
        final int[] step = new int[MOST_HILLS];
        final int[] rolled = new int[MOST_HILLS];
        final int[] strength = new int[MOST_MEN];
        final int[] order = new int[MOST_MEN];
        // The latest first; the steps of all stones of a dusk lie in one number.
        final int[] evening = new int[MOST_EVENINGS];
        int evenings;

        void begin(Land land) {
            day = 0;
            hour = 0;
            evenings = 0;
            for (int h = 0; h < MOST_HILLS; h++) {
                step[h] = 0;
                rolled[h] = 0;
            }
            for (int m = 0; m < MOST_MEN; m++) {
                order[m] = NONE;
            }
            rest(land);
        }

        void copyFrom(Moment other) {
            day = other.day;
            hour = other.hour;
            System.arraycopy(other.step, 0, step, 0, MOST_HILLS);
            System.arraycopy(other.rolled, 0, rolled, 0, MOST_HILLS);
            System.arraycopy(other.strength, 0, strength, 0, MOST_MEN);
            System.arraycopy(other.order, 0, order, 0, MOST_MEN);
            System.arraycopy(other.evening, 0, evening, 0, MOST_EVENINGS);
            evenings = other.evenings;
        }

        boolean isOver(Land land, int h) {
            return step[h] >= land.high[h];
        }

        int overBits(Land land) {
            int bits = 0;
            for (int h = 0; h < land.hills; h++) {
                if (isOver(land, h)) {
                    bits |= 1 << h;
                }
            }
            return bits;
        }

        int sizeNow(Land land, int h) {
            return Math.max(1, land.size[h] - rolled[h] / STEPS_A_SIZE);
        }

        int needOf(Land land, int h) {
            return sizeNow(land, h) + land.slope[h];
        }

        int hoursLeft(Land land) {
            return land.hours - hour;
        }

        int menAt(Land land, int h) {
            int sum = 0;
            for (int m = 0; m < land.men; m++) {
                if (order[m] == h) {
                    sum++;
                }
            }
            return sum;
        }

        int strengthAt(Land land, int h) {
            int sum = 0;
            for (int m = 0; m < land.men; m++) {
                if (order[m] == h) {
                    sum += strength[m];
                }
            }
            return sum;
        }

        /** What all men make together when each has pushed for so many hours more. */
        int strengthAfter(Land land, int hours) {
            int sum = 0;
            for (int m = 0; m < land.men; m++) {
                sum += Math.max(0, strength[m] - hours);
            }
            return sum;
        }

        /** Hills (bits) whose stones keep this hill's stone from a step. */
        int blockersAt(Land land, int h, int place) {
            int bits = 0;
            for (int other = 0; other < land.hills; other++) {
                boolean there = other != h && step[other] == place && !isOver(land, other);
                if (there && land.isOnePlace(h, other, place)) {
                    bits |= 1 << other;
                }
            }
            return bits;
        }

        /** How many steps a stone could come up while all others stay. */
        int freeSteps(Land land, int h) {
            int free = 0;
            for (int place = step[h] + 1; place <= land.high[h]; place++) {
                if (blockersAt(land, h, place) != 0) {
                    break;
                }
                free++;
            }
            return free;
        }

        /** An hour without its dusk: how many stones came a step up. */
        int passHour(Land land) {
            int overAhead = overBits(land);
            int came = 0;
            for (int h = 0; h < land.hills; h++) {
                if (canComeUp(land, h)) {
                    step[h]++;
                    came++;
                }
            }
            for (int m = 0; m < land.men; m++) {
                boolean pushes = land.hasHill(order[m]) && (overAhead >> order[m] & 1) == 0;
                strength[m] = pushes ? Math.max(0, strength[m] - 1) : Math.min(land.force[m], strength[m] + 1);
            }
            hour++;
            return came;
        }

        boolean canComeUp(Land land, int h) {
            return !isOver(land, h)
                && strengthAt(land, h) >= needOf(land, h)
                && blockersAt(land, h, step[h] + 1) == 0;
        }

        /** The hours left today, without the dusk. */
        void passDay(Land land) {
            int left = hoursLeft(land);
            for (int i = 0; i < left; i++) {
                passHour(land);
            }
        }

        void fallDusk(Land land, boolean rains) {
            for (int h = 0; h < land.hills; h++) {
                boolean stays = isOver(land, h) || (!rains && land.hasLedge(h, step[h]));
                if (!stays) {
                    rolled[h] += step[h];
                    step[h] = 0;
                }
            }
            rest(land);
            day++;
            hour = 0;
        }

        void rest(Land land) {
            for (int m = 0; m < land.men; m++) {
                strength[m] = land.force[m];
            }
        }

        void writeDown(Land land) {
            for (int i = MOST_EVENINGS - 1; i > 0; i--) {
                evening[i] = evening[i - 1];
            }
            int row = 0;
            for (int h = 0; h < land.hills; h++) {
                row |= step[h] << h * STEP_BITS;
            }
            evening[0] = row;
            evenings = Math.min(evenings + 1, MOST_EVENINGS);
        }

        int writtenStep(int i, int h) {
            return i < 0 || i >= MOST_EVENINGS ? BAD : evening[i] >> h * STEP_BITS & STEP_MASK;
        }
    }

    /** The search for the first row of men, hour by hour, that brings a stone to its highest step. */
    private static final class Climb {
        // A row of strengths for each hour, and for the one behind the last.
        final int[][] strength = new int[MOST_HOURS + 1][MOST_MEN];
        final int[] row = new int[MOST_HOURS];
        final int[] bestRow = new int[MOST_HOURS];
        int best;
        int need;
        int hours;
        int free;

        void search(Land land, Moment from, int h) {
            need = from.needOf(land, h);
            hours = Math.min(from.hoursLeft(land), MOST_HOURS);
            free = from.freeSteps(land, h);
            System.arraycopy(from.strength, 0, strength[0], 0, MOST_MEN);
            keepRow(0, 0);
            explore(land, 0, 0);
        }

        /**
         * Rows come in rising order, so the first that is the best is the one asked for. Men who
         * could be spared are never in it: without them the row is lesser, and they are fresher.
         */
        void explore(Land land, int at, int came) {
            if (came > best) {
                keepRow(at, came);
            }
            if (at >= hours || best >= free || came + hours - at <= best) {
                return;
            }
            for (int men = 0; men < 1 << land.men; men++) {
                if (men == 0 || isJustEnough(land, at, men)) {
                    row[at] = men;
                    tire(land, at, men);
                    explore(land, at + 1, men == 0 ? came : came + 1);
                }
            }
        }

        /** The row so far is the best; nobody needs to push behind it. */
        void keepRow(int length, int came) {
            best = came;
            for (int i = 0; i < MOST_HOURS; i++) {
                bestRow[i] = i < length ? row[i] : 0;
            }
        }

        /** Whether these men bring it up, and would not with one of them less. */
        boolean isJustEnough(Land land, int at, int men) {
            int sum = 0;
            for (int m = 0; m < land.men; m++) {
                sum += isIn(men, m) ? strength[at][m] : 0;
            }
            if (sum < need) {
                return false;
            }
            for (int m = 0; m < land.men; m++) {
                if (isIn(men, m) && sum - strength[at][m] >= need) {
                    return false;
                }
            }
            return true;
        }

        static boolean isIn(int men, int m) {
            return (men >> m & 1) == 1;
        }

        void tire(Land land, int at, int men) {
            for (int m = 0; m < land.men; m++) {
                int had = strength[at][m];
                strength[at + 1][m] = isIn(men, m) ? Math.max(0, had - 1) : Math.min(land.force[m], had + 1);
            }
        }
    }
}
