import java.nio.charset.StandardCharsets;
import java.util.ArrayList;
import java.util.Arrays;
import java.util.List;
import java.util.Random;
import java.util.regex.Matcher;
import java.util.regex.Pattern;

/**
 * Random runs of calls on the program and on a slow model of the document that tries out all ways and orders.
 * The seeds are fixed, so that each run of this test makes the same calls.
 */
public final class NaiveTests {
    private static final int BAD = -1, NO = -2, FULL = -3, NONE = -4;
    private static final int RUNS = 2500;
    private static final int CALLS = 300;

    private static int wrong;

    /** What was told. */
    private static final class Told {
        final List<Integer> dry = new ArrayList<>();
        final List<Integer> size = new ArrayList<>();
        final List<int[]> sayings = new ArrayList<>();
        final List<int[]> dishes = new ArrayList<>();
        int window = 20;

        boolean add(char letter, int[] n) {
            if (letter == 'p' && n.length == 1) {
                return in(n[0], 1, 9) && dry.size() < 5 && dry.add(n[0]);
            }
            if (letter == 'g' && n.length == 1) {
                return in(n[0], 1, 9) && size.size() < 8 && size.add(n[0]);
            }
            if (letter == 'w' && n.length == 4) {
                boolean answers = n[3] == 99 || n[3] < sayings.size() && sayings.get(n[3])[0] != n[0];
                return n[0] < dry.size() && in(n[1], 1, 60) && answers && sayings.size() < 7 && sayings.add(n);
            }
            if (letter == 'd' && n.length == 2) {
                return n[0] < dry.size() && n[1] < 10 && dishes.size() < 4 && dishes.add(n);
            }
            if (letter == 'a' && n.length == 1) {
                window = n[0];
                return true;
            }
            return false;
        }
    }

    private static boolean in(int n, int from, int to) {
        return n >= from && n <= to;
    }

    /** What was done, one behind the other; how the evening stands is worked out anew from it. */
    private static final class Model {
        private static final Pattern ITEM = Pattern.compile("([a-z])([0-9]{1,2}(?:,[0-9]{1,2})*);");

        StringBuilder text = new StringBuilder();
        Told told = read("p3;p5;g4;g6;w0,10,5,99;w1,20,7,0;");
        int fault;
        List<int[]> done = new ArrayList<>();
        int undoable;
        final List<List<int[]>> kept = new ArrayList<>();

        int second;
        int tongue;
        int melted;
        int[] dry;
        int[] share;
        int[] listens;
        int[] ended;
        boolean[] taken;
        boolean[] eaten;

        Model() {
            stand();
        }

        Told read(String text) {
            Told read = new Told();
            int at = 0;
            Matcher matcher = ITEM.matcher(text);
            while (at < text.length()) {
                matcher.region(at, text.length());
                boolean fits = matcher.lookingAt();
                if (!fits || !read.add(matcher.group(1).charAt(0),
                        Arrays.stream(matcher.group(2).split(",")).mapToInt(Integer::parseInt).toArray())) {
                    fault = at;
                    return read;
                }
                at = matcher.end();
            }
            fault = NONE;
            return read;
        }

        void stand() {
            second = 0;
            tongue = -1;
            melted = 0;
            dry = told.dry.stream().mapToInt(n -> n).toArray();
            share = new int[dry.length];
            listens = new int[dry.length];
            ended = new int[told.sayings.size()];
            Arrays.fill(ended, NONE);
            taken = new boolean[told.size.size()];
            eaten = new boolean[told.dishes.size()];
            for (int[] deed : done) {
                stand(deed);
            }
        }

        void stand(int[] deed) {
            switch (deed[0]) {
                case 0 -> {
                    tongue = deed[1];
                    taken[deed[2]] = true;
                    melted = second + melts(deed[1], deed[2]);
                    listens[deed[1]] = second + 2 * melts(deed[1], deed[2]);
                }
                case 1 -> {
                    int[] saying = told.sayings.get(deed[1]);
                    second += saying[1];
                    share[saying[0]] += saying[1];
                    ended[deed[1]] = second;
                }
                case 2 -> second += deed[1];
                default -> {
                    eaten[deed[1]] = true;
                    eatNow(deed[1]);
                }
            }
        }

        void eatNow(int d) {
            int[] dish = told.dishes.get(d);
            dry[dish[0]] = Math.min(9, Math.max(1, dry[dish[0]] + dish[1] - 5));
        }

        void deed(int... deed) {
            done.add(deed);
            undoable = Math.min(8, undoable + 1);
            stand();
        }

        int melts(int i, int g) {
            return told.size.get(g) * dry[i];
        }

        boolean aPerson(int i) {
            return in(i, 0, dry.length - 1);
        }

        boolean aGrain(int g) {
            return in(g, 0, taken.length - 1);
        }

        boolean aSaying(int s) {
            return in(s, 0, ended.length - 1);
        }

        int write(int n, long v) {
            if (!in(n, 1, 8)) {
                return BAD;
            }
            if (text.length() + n > 300) {
                return FULL;
            }
            for (int k = n - 1; k >= 0; k--) {
                text.append((char) (v >> 8 * k & 255));
            }
            return text.length();
        }

        int wipe() {
            int was = text.length();
            text = new StringBuilder();
            return was;
        }

        int fault() {
            read(text.toString());
            return fault;
        }

        int lay() {
            Told read = read(text.toString());
            if (fault != NONE || read.dry.isEmpty() || read.size.isEmpty()) {
                return NO;
            }
            told = read;
            done.clear();
            kept.clear();
            undoable = 0;
            stand();
            return dry.length;
        }

        int person(int i, int what) {
            return !aPerson(i) || !in(what, 0, 2) ? BAD : new int[][] {dry, share, listens}[what][i];
        }

        int saying(int s, int what) {
            if (!aSaying(s) || !in(what, 0, 4)) {
                return BAD;
            }
            if (what == 4) {
                return ended[s];
            }
            int n = told.sayings.get(s)[what];
            return what == 3 && n == 99 ? NONE : n;
        }

        int meltsOrBad(int i, int g) {
            return !aPerson(i) || !aGrain(g) ? BAD : melts(i, g);
        }

        int take(int i, int g) {
            if (!aPerson(i) || !aGrain(g)) {
                return BAD;
            }
            if (second < melted || second < listens[i] || taken[g]) {
                return NO;
            }
            deed(0, i, g);
            return melted;
        }

        int say(int s) {
            if (!aSaying(s)) {
                return BAD;
            }
            int[] saying = told.sayings.get(s);
            boolean time = second < melted && tongue == saying[0] && second + saying[1] <= melted;
            boolean answer = saying[3] == 99 || ended[saying[3]] != NONE && second - ended[saying[3]] <= told.window;
            if (!time || !answer || ended[s] != NONE) {
                return NO;
            }
            deed(1, s);
            return second;
        }

        int pass(int n) {
            if (!in(n, 1, 600)) {
                return BAD;
            }
            if (second + n > 9999) {
                return NO;
            }
            deed(2, n);
            return second;
        }

        int eat(int d) {
            if (!in(d, 0, eaten.length - 1)) {
                return BAD;
            }
            if (second < melted || eaten[d]) {
                return NO;
            }
            deed(3, d);
            return dry[told.dishes.get(d)[0]];
        }

        int undo() {
            if (undoable == 0) {
                return NO;
            }
            done.remove(done.size() - 1);
            undoable--;
            stand();
            return undoable;
        }

        int[] bestOf(int i, int seconds, boolean all) {
            int[] best = {0, 0, 0};
            for (int set = (1 << ended.length) - 1; set >= 0; set--) {
                int worth = 0;
                int length = 0;
                boolean his = true;
                for (int s = 0; s < ended.length; s++) {
                    if ((set & 1 << s) != 0) {
                        his &= told.sayings.get(s)[0] == i && (all || ended[s] == NONE);
                        length += told.sayings.get(s)[1];
                        worth += told.sayings.get(s)[2];
                    }
                }
                if (his && length <= seconds && worth >= best[1]) {
                    best = new int[] {set, worth, length};
                }
            }
            return best;
        }

        int best(int i, int g, int what) {
            return !aPerson(i) || !aGrain(g) || !in(what, 0, 1) ? BAD : bestOf(i, melts(i, g), false)[what];
        }

        int mostWorth;
        int[] way;

        void tryWays(int s, int[] trial, int worth) {
            if (s == trial.length) {
                if (worth > mostWorth) {
                    mostWorth = worth;
                    way = trial.clone();
                }
                return;
            }
            for (int g = 0; g < taken.length; g++) {
                boolean free = !taken[g] && ended[s] == NONE && melts(told.sayings.get(s)[0], g) >= told.sayings.get(s)[1];
                for (int k = 0; k < s; k++) {
                    free &= trial[k] != g;
                }
                if (free) {
                    trial[s] = g;
                    tryWays(s + 1, trial, worth + told.sayings.get(s)[2]);
                }
            }
            trial[s] = NONE;
            tryWays(s + 1, trial, worth);
        }

        void matchNow() {
            mostWorth = -1;
            tryWays(0, new int[ended.length], 0);
        }

        int match(int s) {
            if (s != -1 && !aSaying(s)) {
                return BAD;
            }
            matchNow();
            return s == -1 ? mostWorth : way[s];
        }

        int soonest;
        List<Integer> order;
        int late;

        void tryOrders(List<Integer> trial, int wanted) {
            if (trial.size() == wanted) {
                measure(trial);
                return;
            }
            for (int s = 0; s < ended.length; s++) {
                int answered = told.sayings.get(s)[3];
                boolean waits = answered != 99 && way[answered] != NONE && !trial.contains(answered);
                if (way[s] != NONE && !trial.contains(s) && !waits) {
                    trial.add(s);
                    tryOrders(trial, wanted);
                    trial.remove(trial.size() - 1);
                }
            }
        }

        void measure(List<Integer> trial) {
            int[] begin = new int[ended.length];
            int at = 0;
            int behind = 0;
            for (int k = 0; k < trial.size(); k++) {
                int s = trial.get(k);
                int[] saying = told.sayings.get(s);
                for (int e = 0; e < k; e++) {
                    int earlier = trial.get(e);
                    if (told.sayings.get(earlier)[0] == saying[0]) {
                        at = Math.max(at, begin[earlier] + 2 * melts(saying[0], way[earlier]));
                    }
                }
                begin[s] = at;
                if (saying[3] != 99 && way[saying[3]] != NONE
                        && at - begin[saying[3]] - told.sayings.get(saying[3])[1] > told.window) {
                    behind++;
                }
                at += saying[1];
            }
            if (order == null || at < soonest) {
                soonest = at;
                order = List.copyOf(trial);
                late = behind;
            }
        }

        void orderNow() {
            matchNow();
            order = null;
            tryOrders(new ArrayList<>(), (int) Arrays.stream(way).filter(g -> g != NONE).count());
        }

        int soonest(int i) {
            if (i < -1) {
                return BAD;
            }
            orderNow();
            return i == -1 ? soonest : i < order.size() ? order.get(i) : NONE;
        }

        int late() {
            orderNow();
            return late;
        }

        int lead(int i, int j) {
            matchNow();
            int lead = 0;
            for (int s = 0; s < way.length; s++) {
                int who = told.sayings.get(s)[0];
                int worth = way[s] == NONE ? 0 : told.sayings.get(s)[2];
                lead += who == i ? worth : who == j ? -worth : 0;
            }
            return lead;
        }

        int dish(int i, int j) {
            if (!aPerson(i) || !aPerson(j) || i == j) {
                return BAD;
            }
            int asIs = lead(i, j);
            int best = NONE;
            int most = Integer.MIN_VALUE;
            int[] was = dry.clone();
            for (int d = eaten.length - 1; d >= 0; d--) {
                if (!eaten[d]) {
                    eatNow(d);
                    int lead = lead(i, j);
                    dry = was.clone();
                    if (lead >= most) {
                        most = lead;
                        best = d;
                    }
                }
            }
            return most > asIs ? best : NONE;
        }

        int spoke(int i, int n, int what) {
            if (!aPerson(i) || !in(n, 1, 500) || !in(what, 0, 1)) {
                return BAD;
            }
            List<Integer> sets = new ArrayList<>();
            for (int set = 1; set < 1 << taken.length; set++) {
                int sum = 0;
                for (int g = 0; g < taken.length; g++) {
                    sum += (set & 1 << g) == 0 ? 0 : told.size.get(g) * told.dry.get(i);
                }
                if (sum == n) {
                    sets.add(set);
                }
            }
            return what == 0 ? sets.size() : sets.stream().reduce((a, b) -> a & b).orElse(0);
        }

        int winter(int z, int n, int i) {
            if (!in(z, 0, 9999) || !in(n, 1, 100) || i != -1 && !aPerson(i)) {
                return BAD;
            }
            int sum = 0;
            for (int k = 0; k < n; k++) {
                long x = 7919L * z + 6151L * k + 1;
                long draw = x * x % 65521;
                int who = (int) (draw % dry.length);
                int g = (int) (draw / 8 % taken.length);
                int[] best = bestOf(who, told.size.get(g) * told.dry.get(who), true);
                sum += i == -1 ? best[1] : i == who ? best[2] : 0;
            }
            return sum;
        }

        int keep() {
            if (kept.size() == 2) {
                return FULL;
            }
            kept.add(new ArrayList<>(done));
            return kept.size();
        }

        int back() {
            if (kept.isEmpty()) {
                return NO;
            }
            done = kept.remove(kept.size() - 1);
            undoable = 0;
            stand();
            return kept.size();
        }

        int count(int what) {
            int shaker = 0;
            for (int g = 0; g < taken.length; g++) {
                shaker |= taken[g] ? 0 : 1 << g;
            }
            int said = 0;
            for (int s = 0; s < ended.length; s++) {
                said |= ended[s] == NONE ? 0 : 1 << s;
            }
            int gone = 0;
            for (int d = 0; d < eaten.length; d++) {
                gone |= eaten[d] ? 1 << d : 0;
            }
            int[] counts = {dry.length, taken.length, ended.length, eaten.length, second, shaker, said, gone, undoable,
                kept.size(), text.length()};
            return in(what, 0, 10) ? counts[what] : BAD;
        }
    }

    private static int some(Random random, int from, int to) {
        return from + random.nextInt(to - from + 1);
    }

    /** Mostly a number that may be told, at times one beside it or one far off. */
    private static int number(Random random, int to) {
        int kind = random.nextInt(60);
        if (kind == 0) {
            return random.nextInt();
        }
        if (kind == 1) {
            return random.nextBoolean() ? Integer.MAX_VALUE : Integer.MIN_VALUE;
        }
        return kind < 8 ? some(random, -2, to + 1) : some(random, 0, Math.max(0, to - 1));
    }

    private static String table(Random random) {
        StringBuilder text = new StringBuilder();
        int persons = random.nextInt(4) > 0 ? some(random, 2, 3) : some(random, 1, 5);
        int driest = random.nextBoolean() ? 9 : 4;
        for (int k = 0; k < persons; k++) {
            text.append('p').append(some(random, 1, driest)).append(';');
        }
        int grains = random.nextInt(10) == 0 ? some(random, 6, 8) : some(random, 1, 5);
        for (int k = 0; k < grains; k++) {
            text.append('g').append(some(random, 1, 9)).append(';');
        }
        if (random.nextInt(3) > 0) {
            text.append('a').append(random.nextInt(3) > 0 ? some(random, 0, 12) : some(random, 0, 99)).append(';');
        }
        int sayings = random.nextInt(4) == 0 ? some(random, 0, 3) : some(random, 3, grains > 5 ? 4 : random.nextInt(8) == 0 ? 7 : 5);
        int longest = random.nextInt(3) == 0 ? 60 : some(random, 3, 20);
        int worthiest = random.nextBoolean() ? 99 : 4;
        int[] who = new int[sayings];
        for (int k = 0; k < sayings; k++) {
            who[k] = random.nextInt(persons);
            int answered = k == 0 ? 99 : random.nextInt(k);
            text.append('w').append(who[k]).append(',').append(some(random, 1, longest)).append(',').append(some(random, 0, worthiest))
                .append(',').append(answered != 99 && who[answered] == who[k] ? 99 : answered).append(';');
        }
        int dishes = some(random, 0, 4);
        for (int k = 0; k < dishes; k++) {
            text.append('d').append(random.nextInt(persons)).append(',').append(random.nextInt(10)).append(';');
        }
        if (random.nextInt(4) == 0) {
            String signs = "pgwad0123456789,;;,x \u00ff";
            int spoilt = random.nextInt(text.length());
            text.setCharAt(spoilt, signs.charAt(random.nextInt(signs.length())));
        }
        return text.toString();
    }

    private static int run;

    private static void due(String call, int got, int want) {
        if (got != want) {
            wrong++;
            if (wrong < 50) {
                System.out.println("run " + run + ": " + call + " answered " + got + ", due is " + want);
            }
        }
    }

    private static void tell(Random random, WhileSaltMelts x, Model m) {
        due("wipe()", x.wipe(), m.wipe());
        byte[] bytes = table(random).getBytes(StandardCharsets.ISO_8859_1);
        int from = 0;
        while (from < bytes.length) {
            int n = Math.min(bytes.length - from, some(random, 1, 8));
            long v = random.nextLong();
            for (int k = 0; k < n; k++) {
                v = v << 8 | (bytes[from + k] & 255);
            }
            due("write(" + n + ", " + v + ")", x.write(n, v), m.write(n, v));
            from += n;
        }
        due("fault()", x.fault(), m.fault());
        due("lay()", x.lay(), m.lay());
    }

    private static void evening(Random random, WhileSaltMelts x, Model m) {
        int i = number(random, m.dry.length);
        int g = number(random, m.taken.length);
        int s = number(random, m.ended.length);
        int d = number(random, m.eaten.length);
        switch (random.nextInt(12)) {
            case 0, 1, 2 -> due("take(" + i + ", " + g + ")", x.take(i, g), m.take(i, g));
            case 3, 4 -> due("say(" + s + ")", x.say(s), m.say(s));
            case 5, 6 -> {
                for (int each = 0; each < m.ended.length; each++) {
                    due("say(" + each + ")", x.say(each), m.say(each));
                }
            }
            case 7 -> {
                int n = random.nextInt(6) == 0 ? number(random, 602) : some(random, 1, 40);
                due("pass(" + n + ")", x.pass(n), m.pass(n));
            }
            case 8 -> {
                // just to where something melts or someone has listened
                int to = random.nextBoolean() || !m.aPerson(i) ? m.melted : m.listens[i];
                int n = to - m.second - (random.nextInt(4) == 0 ? 1 : 0);
                due("pass(" + n + ")", x.pass(n), m.pass(n));
            }
            case 9 -> due("eat(" + d + ")", x.eat(d), m.eat(d));
            case 10 -> due("undo()", x.undo(), m.undo());
            default -> {
                if (random.nextInt(3) == 0) {
                    due("keep()", x.keep(), m.keep());
                } else if (random.nextInt(3) == 0) {
                    due("back()", x.back(), m.back());
                }
            }
        }
    }

    private static void ask(Random random, WhileSaltMelts x, Model m) {
        int i = number(random, m.dry.length);
        int j = random.nextInt(3) > 0 ? (i + 1) % m.dry.length : number(random, m.dry.length);
        int g = number(random, m.taken.length);
        int s = number(random, m.ended.length);
        int what = number(random, 2);
        switch (random.nextInt(14)) {
            case 0 -> due("person(" + i + ", " + what + ")", x.person(i, what), m.person(i, what));
            case 1 -> {
                int more = number(random, 5);
                due("saying(" + s + ", " + more + ")", x.saying(s, more), m.saying(s, more));
            }
            case 2 -> due("melts(" + i + ", " + g + ")", x.melts(i, g), m.meltsOrBad(i, g));
            case 3 -> due("best(" + i + ", " + g + ", " + what + ")", x.best(i, g, what), m.best(i, g, what));
            case 4 -> due("match(" + s + ")", x.match(s), m.match(s));
            case 5 -> {
                int place = random.nextBoolean() ? -1 : s;
                due("soonest(" + place + ")", x.soonest(place), m.soonest(place));
            }
            case 6, 11 -> due("late()", x.late(), m.late());
            case 7, 12 -> due("dish(" + i + ", " + j + ")", x.dish(i, j), m.dish(i, j));
            case 8 -> {
                int n = random.nextInt(3) == 0 ? number(random, 501) : some(random, 1, 60);
                due("spoke(" + i + ", " + n + ", " + what + ")", x.spoke(i, n, what), m.spoke(i, n, what));
            }
            case 9 -> {
                int z = number(random, 10000);
                int n = random.nextInt(3) == 0 ? number(random, 101) : some(random, 1, 20);
                int who = random.nextBoolean() ? -1 : i;
                due("winter(" + z + ", " + n + ", " + who + ")", x.winter(z, n, who), m.winter(z, n, who));
            }
            default -> due("match(-1)", x.match(-1), m.match(-1));
        }
    }

    private static void countAll(WhileSaltMelts x, Model m) {
        for (int what = -1; what < 12; what++) {
            due("count(" + what + ")", x.count(what), m.count(what));
        }
        for (int i = 0; i < m.dry.length; i++) {
            for (int what = 0; what < 3; what++) {
                due("person(" + i + ", " + what + ")", x.person(i, what), m.person(i, what));
            }
        }
        for (int s = 0; s < m.ended.length; s++) {
            due("saying(" + s + ", 4)", x.saying(s, 4), m.saying(s, 4));
        }
    }

    public static void main(String[] args) {
        for (run = 0; run < RUNS; run++) {
            Random random = new Random(run);
            WhileSaltMelts x = new WhileSaltMelts();
            Model m = new Model();
            for (int call = 0; call < CALLS; call++) {
                if (call == 5 || random.nextInt(40) == 0) {
                    tell(random, x, m);
                } else if (random.nextInt(3) > 0) {
                    evening(random, x, m);
                } else {
                    ask(random, x, m);
                }
                if (random.nextInt(10) == 0) {
                    countAll(x, m);
                }
            }
        }
        System.out.println(wrong == 0 ? "all answers are as due" : wrong + " answers are not as due");
        if (wrong != 0) {
            System.exit(1);
        }
    }
}
