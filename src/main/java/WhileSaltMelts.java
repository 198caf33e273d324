/** A table at which one may speak only while a grain of salt melts; the promises stand in shared/DOC.md. */
public final class WhileSaltMelts {
    public static final int BAD = -1, NO = -2, FULL = -3, NONE = -4;

    private static final int MOST_BYTES = 300;
    private static final int MOST_BYTES_AT_ONCE = 8;
    private static final int MOST_PERSONS = 5;
    private static final int MOST_GRAINS = 8;
    private static final int MOST_SAYINGS = 7;
    private static final int MOST_DISHES = 4;
    private static final int MOST_NUMBERS = 4;
    private static final int MOST_UNDONE = 8;
    private static final int MOST_KEPT = 2;
    private static final int DRIEST = 9;
    private static final int ANSWERS_NONE = 99;
    private static final int WINDOW_WITHOUT = 20;
    private static final int LAST_SECOND = 9999;
    private static final int MOST_SECONDS_AT_ONCE = 600;
    private static final int MOST_SECONDS_SPOKEN = 500;
    private static final int LAST_WINTER = 9999;
    private static final int MOST_EVENINGS = 100;
    private static final int DRAW_MODULUS = 65521;
    private static final String TOLD_AT_FIRST = "p3;p5;g4;g6;w0,10,5,99;w1,20,7,0;";

    private final byte[] text = new byte[MOST_BYTES];
    private int textLength;
    private final Reader reader = new Reader();
    private Table laid = new Table();
    private Table draft = new Table();
    private final Evening now = new Evening();
    private final Evening tried = new Evening();
    private final Evening[] before = new Evening[MOST_UNDONE];
    private int undoable;
    private final Evening[] kept = new Evening[MOST_KEPT];
    private int keptCount;
    private final Giving giving = new Giving();
    private final Order order = new Order();

    public WhileSaltMelts() {
        for (int k = 0; k < MOST_UNDONE; k++) {
            before[k] = new Evening();
        }
        for (int k = 0; k < MOST_KEPT; k++) {
            kept[k] = new Evening();
        }
        int length = TOLD_AT_FIRST.length();
        for (int k = 0; k < length && k < MOST_BYTES; k++) {
            text[k] = (byte) TOLD_AT_FIRST.charAt(k);
        }
        reader.readTable(text, length, laid);
        now.begin(laid);
    }

    // ---- tables

    public int write(int n, long v) {
        if (n < 1 || n > MOST_BYTES_AT_ONCE) {
            return BAD;
        }
        if (textLength + n > MOST_BYTES) {
            return FULL;
        }
        for (int k = n - 1; k >= 0; k--) {
            text[textLength] = (byte) (v >>> (8 * k));
            textLength++;
        }
        return textLength;
    }

    public int wipe() {
        int length = textLength;
        textLength = 0;
        return length;
    }

    public int fault() {
        return reader.readTable(text, textLength, draft);
    }

    public int lay() {
        if (reader.readTable(text, textLength, draft) != NONE || draft.persons < 1 || draft.grains < 1) {
            return NO;
        }
        Table told = draft;
        draft = laid;
        laid = told;
        now.begin(laid);
        undoable = 0;
        keptCount = 0;
        return laid.persons;
    }

    public int person(int i, int what) {
        if (!isPerson(i)) {
            return BAD;
        }
        switch (what) {
            case 0: return now.dry[i];
            case 1: return now.share[i];
            case 2: return now.listensUntil[i];
            default: return BAD;
        }
    }

    public int saying(int s, int what) {
        if (!isSaying(s)) {
            return BAD;
        }
        switch (what) {
            case 0: return laid.speaker[s];
            case 1: return laid.seconds[s];
            case 2: return laid.worth[s];
            case 3: return laid.answered[s];
            case 4: return isIn(now.said, s) ? now.ended[s] : NONE;
            default: return BAD;
        }
    }

    public int melts(int i, int g) {
        if (!isPerson(i) || !isGrain(g)) {
            return BAD;
        }
        return laid.size[g] * now.dry[i];
    }

    // ---- the evening

    public int take(int i, int g) {
        if (!isPerson(i) || !isGrain(g)) {
            return BAD;
        }
        if (now.aGrainMelts() || now.second < now.listensUntil[i] || !isIn(now.shaker, g)) {
            return NO;
        }
        remember();
        int melting = laid.size[g] * now.dry[i];
        now.shaker &= ~(1 << g);
        now.tongue = i;
        now.melted = now.second + melting;
        now.listensUntil[i] = now.melted + melting;
        return now.melted;
    }

    public int say(int s) {
        if (!isSaying(s)) {
            return BAD;
        }
        if (!canBeSaid(s)) {
            return NO;
        }
        remember();
        now.second += laid.seconds[s];
        now.said |= 1 << s;
        now.ended[s] = now.second;
        now.share[now.tongue] += laid.seconds[s];
        return now.second;
    }

    public int pass(int n) {
        if (n < 1 || n > MOST_SECONDS_AT_ONCE) {
            return BAD;
        }
        if (now.second + n > LAST_SECOND) {
            return NO;
        }
        remember();
        now.second += n;
        return now.second;
    }

    public int eat(int d) {
        if (!isDish(d)) {
            return BAD;
        }
        if (now.aGrainMelts() || isIn(now.eaten, d)) {
            return NO;
        }
        remember();
        return now.eatDish(laid, d);
    }

    public int undo() {
        if (undoable < 1) {
            return NO;
        }
        undoable--;
        now.copyFrom(before[undoable]);
        return undoable;
    }

    // ---- the best

    public int best(int i, int g, int what) {
        if (!isPerson(i) || !isGrain(g) || what < 0 || what > 1) {
            return BAD;
        }
        int set = laid.bestSet(i, now.said, laid.size[g] * now.dry[i]);
        return what == 0 ? set : laid.worthOf(set);
    }

    public int match(int s) {
        if (s != -1 && !isSaying(s)) {
            return BAD;
        }
        giving.give(laid, now);
        return s == -1 ? laid.worthOf(giving.given) : giving.grainOf[s];
    }

    public int soonest(int i) {
        if (i < -1) {
            return BAD;
        }
        findOrder();
        if (i == -1) {
            return order.soonest;
        }
        return i < order.count && i < MOST_SAYINGS ? order.first[i] : NONE;
    }

    public int late() {
        findOrder();
        return order.countLate(laid);
    }

    public int dish(int i, int j) {
        if (!isPerson(i) || !isPerson(j) || i == j) {
            return BAD;
        }
        int greatest = leadOf(i, j, now);
        int found = NONE;
        for (int d = 0; d < laid.dishes; d++) {
            if (!isIn(now.eaten, d)) {
                tried.copyFrom(now);
                tried.eatDish(laid, d);
                int lead = leadOf(i, j, tried);
                if (lead > greatest) {
                    greatest = lead;
                    found = d;
                }
            }
        }
        return found;
    }

    // ---- grains, winters

    public int spoke(int i, int n, int what) {
        if (!isPerson(i) || n < 1 || n > MOST_SECONDS_SPOKEN || what < 0 || what > 1) {
            return BAD;
        }
        int sets = 0;
        int inEach = 0;
        for (int set = 0; set < 1 << laid.grains; set++) {
            if (laid.sizeOf(set) * laid.dry[i] == n) {
                inEach = sets == 0 ? set : inEach & set;
                sets++;
            }
        }
        return what == 0 ? sets : inEach;
    }

    public int winter(int z, int n, int i) {
        if (z < 0 || z > LAST_WINTER || n < 1 || n > MOST_EVENINGS || (i != -1 && !isPerson(i))) {
            return BAD;
        }
        int sum = 0;
        for (int k = 0; k < n; k++) {
            int draw = drawOf(z, k);
            int speaker = remainder(draw, laid.persons);
            int grain = remainder(draw / 8, laid.grains);
            if (i == -1 || i == speaker) {
                int set = laid.bestSet(speaker, 0, laid.size[grain] * laid.dry[speaker]);
                sum += i == -1 ? laid.worthOf(set) : laid.secondsOf(set);
            }
        }
        return sum;
    }

    public int keep() {
        if (keptCount >= MOST_KEPT) {
            return FULL;
        }
        kept[keptCount].copyFrom(now);
        keptCount++;
        return keptCount;
    }

    public int back() {
        if (keptCount < 1) {
            return NO;
        }
        keptCount--;
        now.copyFrom(kept[keptCount]);
        undoable = 0;
        return keptCount;
    }

    public int count(int what) {
        switch (what) {
            case 0: return laid.persons;
            case 1: return laid.grains;
            case 2: return laid.sayings;
            case 3: return laid.dishes;
            case 4: return now.second;
            case 5: return now.shaker;
            case 6: return now.said;
            case 7: return now.eaten;
            case 8: return undoable;
            case 9: return keptCount;
            case 10: return textLength;
            default: return BAD;
        }
    }

    private boolean isPerson(int i) {
        return i >= 0 && i < laid.persons && i < MOST_PERSONS;
    }

    private boolean isGrain(int g) {
        return g >= 0 && g < laid.grains && g < MOST_GRAINS;
    }

    private boolean isSaying(int s) {
        return s >= 0 && s < laid.sayings && s < MOST_SAYINGS;
    }

    private boolean isDish(int d) {
        return d >= 0 && d < laid.dishes && d < MOST_DISHES;
    }

    private static boolean isIn(int set, int member) {
        return (set >> member & 1) == 1;
    }

    private boolean canBeSaid(int s) {
        return now.aGrainMelts() && isPerson(now.tongue) && now.tongue == laid.speaker[s] && !isIn(now.said, s)
                && now.second + laid.seconds[s] <= now.melted && mayAnswerNow(laid.answered[s]);
    }

    private boolean mayAnswerNow(int answered) {
        if (!isSaying(answered)) {
            return true;
        }
        return isIn(now.said, answered) && now.ended[answered] + laid.window >= now.second;
    }

    /** Has to be called ahead of each change that undo() can take back. */
    private void remember() {
        if (undoable >= MOST_UNDONE) {
            Evening oldest = before[0];
            for (int k = 1; k < MOST_UNDONE; k++) {
                before[k - 1] = before[k];
            }
            before[MOST_UNDONE - 1] = oldest;
            undoable = MOST_UNDONE - 1;
        }
        before[undoable].copyFrom(now);
        undoable++;
    }

    private void findOrder() {
        giving.give(laid, now);
        order.find(laid, now, giving);
    }

    private int leadOf(int i, int j, Evening evening) {
        giving.give(laid, evening);
        return laid.worthOf(giving.given & laid.sayingsOf(i)) - laid.worthOf(giving.given & laid.sayingsOf(j));
    }

    private static int drawOf(int z, int k) {
        long x = 7919L * z + 6151L * k + 1;
        return (int) (x * x % DRAW_MODULUS);
    }

    private static int remainder(int number, int divisor) {
        return divisor < 1 ? 0 : number % divisor;
    }

    /** What a TEXT tells. */
    private static final class Table {
        int persons;
        final int[] dry = new int[MOST_PERSONS];
        int grains;
        final int[] size = new int[MOST_GRAINS];
        int sayings;
        final int[] speaker = new int[MOST_SAYINGS];
        final int[] seconds = new int[MOST_SAYINGS];
        final int[] worth = new int[MOST_SAYINGS];
        final int[] answered = new int[MOST_SAYINGS];
        int dishes;
        final int[] eater = new int[MOST_DISHES];
        final int[] drier = new int[MOST_DISHES];
        int window;

        void clear() {
            persons = 0;
            grains = 0;
            sayings = 0;
            dishes = 0;
            window = WINDOW_WITHOUT;
        }

        /** Adds what an ITEM tells, or answers false if the ITEM is not so. */
        boolean add(int letter, int[] number, int numbers) {
            if (number.length < MOST_NUMBERS) {
                return false;
            }
            switch (letter) {
                case 'p': return numbers == 1 && addPerson(number[0]);
                case 'g': return numbers == 1 && addGrain(number[0]);
                case 'w': return numbers == 4 && addSaying(number[0], number[1], number[2], number[3]);
                case 'a': return numbers == 1 && setWindow(number[0]);
                case 'd': return numbers == 2 && addDish(number[0], number[1]);
                default: return false;
            }
        }

        private boolean addPerson(int howDry) {
            if (persons >= MOST_PERSONS || howDry < 1 || howDry > DRIEST) {
                return false;
            }
            dry[persons] = howDry;
            persons++;
            return true;
        }

        private boolean addGrain(int howLarge) {
            if (grains >= MOST_GRAINS || howLarge < 1 || howLarge > 9) {
                return false;
            }
            size[grains] = howLarge;
            grains++;
            return true;
        }

        private boolean addSaying(int who, int length, int value, int what) {
            if (sayings >= MOST_SAYINGS || who >= persons || length < 1 || length > 60) {
                return false;
            }
            if (what != ANSWERS_NONE && (what >= sayings || speaker[what] == who)) {
                return false;
            }
            speaker[sayings] = who;
            seconds[sayings] = length;
            worth[sayings] = value;
            answered[sayings] = what == ANSWERS_NONE ? NONE : what;
            sayings++;
            return true;
        }

        private boolean setWindow(int howLong) {
            window = howLong;
            return true;
        }

        private boolean addDish(int who, int fiveMore) {
            if (dishes >= MOST_DISHES || who >= persons || fiveMore > 9) {
                return false;
            }
            eater[dishes] = who;
            drier[dishes] = fiveMore - 5;
            dishes++;
            return true;
        }

        int sayingsOf(int person) {
            int set = 0;
            for (int s = 0; s < sayings && s < MOST_SAYINGS; s++) {
                if (speaker[s] == person) {
                    set |= 1 << s;
                }
            }
            return set;
        }

        /** BEST for a PERSON for whom the GRAIN melts in so many seconds. */
        int bestSet(int person, int said, int melting) {
            int others = ~sayingsOf(person) | said;
            int found = 0;
            int most = 0;
            for (int set = 0; set < 1 << sayings; set++) {
                if ((set & others) == 0 && secondsOf(set) <= melting) {
                    int value = worthOf(set);
                    if (value > most) {
                        most = value;
                        found = set;
                    }
                }
            }
            return found;
        }

        int worthOf(int set) {
            return sumOf(worth, sayings, set);
        }

        int secondsOf(int set) {
            return sumOf(seconds, sayings, set);
        }

        int sizeOf(int set) {
            return sumOf(size, grains, set);
        }

        private static int sumOf(int[] row, int count, int set) {
            int sum = 0;
            for (int k = 0; k < count && k < row.length; k++) {
                if (isIn(set, k)) {
                    sum += row[k];
                }
            }
            return sum;
        }
    }

    /** Reads a TEXT, ITEM by ITEM. */
    private static final class Reader {
        private int letter;
        private final int[] number = new int[MOST_NUMBERS];
        private int numbers;

        /** FAULT, or NONE; behind a FAULT the table is not to be used. */
        int readTable(byte[] bytes, int length, Table into) {
            into.clear();
            int at = 0;
            while (at < length) {
                int next = readItem(bytes, length, at);
                if (next <= at || !into.add(letter, number, numbers)) {
                    return at;
                }
                at = next;
            }
            return NONE;
        }

        /** The place behind the ITEM's ; or -1 if it is no letter, numbers and ;. */
        private int readItem(byte[] bytes, int length, int at) {
            int end = Math.min(length, bytes.length);
            if (at < 0 || at >= end) {
                return -1;
            }
            letter = bytes[at];
            numbers = 0;
            int place = at + 1;
            while (numbers < MOST_NUMBERS) {
                int value = 0;
                int figures = 0;
                while (figures < 2 && place < end && isFigure(bytes[place])) {
                    value = value * 10 + bytes[place] - '0';
                    figures++;
                    place++;
                }
                if (figures == 0 || place >= end) {
                    return -1;
                }
                number[numbers] = value;
                numbers++;
                int sign = bytes[place];
                place++;
                if (sign == ';') {
                    return place;
                }
                if (sign != ',') {
                    return -1;
                }
            }
            return -1;
        }

        private static boolean isFigure(int sign) {
            return sign >= '0' && sign <= '9';
        }
    }

    /** How an evening stands; what was told stays in the table. */
    private static final class Evening {
        int second;
        int shaker;
        int said;
        int eaten;
        /** Whose the latest GRAIN is, and the second when it has melted. */
        int tongue;
        int melted;
        final int[] dry = new int[MOST_PERSONS];
        final int[] share = new int[MOST_PERSONS];
        final int[] listensUntil = new int[MOST_PERSONS];
        final int[] ended = new int[MOST_SAYINGS];

        void begin(Table table) {
            second = 0;
            shaker = (1 << table.grains) - 1;
            said = 0;
            eaten = 0;
            tongue = 0;
            melted = 0;
            for (int i = 0; i < MOST_PERSONS; i++) {
                dry[i] = table.dry[i];
                share[i] = 0;
                listensUntil[i] = 0;
            }
            for (int s = 0; s < MOST_SAYINGS; s++) {
                ended[s] = 0;
            }
        }

        void copyFrom(Evening other) {
            second = other.second;
            shaker = other.shaker;
            said = other.said;
            eaten = other.eaten;
            tongue = other.tongue;
            melted = other.melted;
            for (int i = 0; i < MOST_PERSONS; i++) {
                dry[i] = other.dry[i];
                share[i] = other.share[i];
                listensUntil[i] = other.listensUntil[i];
            }
            for (int s = 0; s < MOST_SAYINGS; s++) {
                ended[s] = other.ended[s];
            }
        }

        boolean aGrainMelts() {
            return second < melted;
        }

        int eatDish(Table table, int d) {
            int who = table.eater[d];
            eaten |= 1 << d;
            dry[who] = Math.max(1, Math.min(DRIEST, dry[who] + table.drier[d]));
            return dry[who];
        }
    }

    /** MATCH. */
    private static final class Giving {
        /** By SAYING and set of GRAINS: the most that it and those behind it are worth by these GRAINS. */
        private final int[][] most = new int[MOST_SAYINGS + 1][1 << MOST_GRAINS];
        final int[] grainOf = new int[MOST_SAYINGS];
        int given;

        void give(Table table, Evening evening) {
            for (int set = 0; set < 1 << table.grains; set++) {
                most[table.sayings][set] = 0;
            }
            for (int s = table.sayings - 1; s >= 0; s--) {
                int fitting = grainsFor(table, evening, s);
                for (int set = 0; set < 1 << table.grains; set++) {
                    most[s][set] = mostFrom(table, fitting, s, set);
                }
            }
            giveFirst(table, evening);
        }

        /** The GRAINS that melt no sooner than the SAYING ends; none for one that is said. */
        private static int grainsFor(Table table, Evening evening, int s) {
            if (isIn(evening.said, s)) {
                return 0;
            }
            int set = 0;
            for (int g = 0; g < table.grains; g++) {
                if (table.size[g] * evening.dry[table.speaker[s]] >= table.seconds[s]) {
                    set |= 1 << g;
                }
            }
            return set;
        }

        private int mostFrom(Table table, int fitting, int s, int set) {
            int found = most[s + 1][set];
            for (int g = 0; g < table.grains; g++) {
                if (isIn(set & fitting, g)) {
                    found = Math.max(found, table.worth[s] + most[s + 1][set & ~(1 << g)]);
                }
            }
            return found;
        }

        private void giveFirst(Table table, Evening evening) {
            given = 0;
            int left = evening.shaker;
            for (int s = 0; s < table.sayings; s++) {
                int g = firstGrain(table, left & grainsFor(table, evening, s), s, left);
                grainOf[s] = g;
                if (g != NONE) {
                    given |= 1 << s;
                    left &= ~(1 << g);
                }
            }
        }

        private int firstGrain(Table table, int fitting, int s, int left) {
            for (int g = 0; g < table.grains; g++) {
                if (isIn(fitting, g) && table.worth[s] + most[s + 1][left & ~(1 << g)] == most[s][left]) {
                    return g;
                }
            }
            return NONE;
        }
    }

    /** SOONEST and LATE. */
    private static final class Order {
        private static final int NOT_YET = 1_000_000;

        int count;
        int soonest;
        final int[] first = new int[MOST_SAYINGS];
        private int chosen;
        private final int[] melting = new int[MOST_SAYINGS];
        private final int[] trial = new int[MOST_SAYINGS];
        private final int[] free = new int[MOST_PERSONS];
        private final int[] end = new int[MOST_SAYINGS];

        void find(Table table, Evening evening, Giving giving) {
            chosen = giving.given;
            count = Integer.bitCount(chosen);
            soonest = NOT_YET;
            for (int s = 0; s < table.sayings; s++) {
                int g = giving.grainOf[s];
                melting[s] = g == NONE ? 0 : table.size[g] * evening.dry[table.speaker[s]];
            }
            freeAll();
            tryFrom(this, table, 0, 0, 0);
        }

        private void freeAll() {
            for (int i = 0; i < MOST_PERSONS; i++) {
                free[i] = 0;
            }
        }

        /** Goes by lowest SAYINGS first, so that of several orders the first stays. */
        private static void tryFrom(Order order, Table table, int depth, int done, int ended) {
            if (depth >= order.count || depth >= MOST_SAYINGS) {
                order.keepTrial(ended);
                return;
            }
            for (int s = 0; s < table.sayings; s++) {
                if (order.mayBeNext(table, done, s)) {
                    int who = table.speaker[s];
                    int freeBefore = order.free[who];
                    int end = order.endBehind(table, s, ended);
                    if (end < order.soonest) {
                        order.trial[depth] = s;
                        tryFrom(order, table, depth + 1, done | 1 << s, end);
                    }
                    order.free[who] = freeBefore;
                }
            }
        }

        /** When the SAYING ends, said as soon as it can be; its PERSON is free again only behind listening. */
        private int endBehind(Table table, int s, int ended) {
            int who = table.speaker[s];
            int begin = Math.max(ended, free[who]);
            free[who] = begin + 2 * melting[s];
            return begin + table.seconds[s];
        }

        private boolean mayBeNext(Table table, int done, int s) {
            int answered = table.answered[s];
            boolean waits = answered != NONE && isIn(chosen & ~done, answered);
            return isIn(chosen & ~done, s) && !waits;
        }

        private void keepTrial(int ended) {
            soonest = ended;
            for (int k = 0; k < MOST_SAYINGS; k++) {
                first[k] = trial[k];
            }
        }

        int countLate(Table table) {
            int late = 0;
            int ended = 0;
            freeAll();
            for (int k = 0; k < count && k < MOST_SAYINGS; k++) {
                int s = first[k];
                int answered = table.answered[s];
                ended = endBehind(table, s, ended);
                end[s] = ended;
                if (answered != NONE && isIn(chosen, answered)
                        && ended - table.seconds[s] > end[answered] + table.window) {
                    late++;
                }
            }
            return late;
        }
    }
}
