import java.math.BigInteger;
import java.util.ArrayDeque;
import java.util.ArrayList;
import java.util.Arrays;
import java.util.Comparator;
import java.util.Deque;
import java.util.List;
import java.util.Random;
import java.util.regex.Matcher;
import java.util.regex.Pattern;

/**
 * Runs of random calls, right and wrong, beside a plain model that was written from the document alone
 * and reaches its answers in other ways: by trying everything and letting the years go by.
 */
public final class ModelTest {
    /** With a text of 200 letters an object is used 502 times; nothing is promised behind the 512th call. */
    private static final int RUNS = 2000, CALLS = 300;
    /** In some runs the last years are near; these many calls fewer are left then. */
    private static final int LATE_PASSES = 49;
    private static final int BAD = -1, NO = -2, FULL = -3, NONE = -4;

    public static void main(String[] args) {
        int wrong = 0;
        int[] seen = new int[31];
        for (int run = 0; run < RUNS && wrong < 5; run++) {
            wrong += runsApart(run, seen) ? 1 : 0;
        }
        for (int call = 0; call < 30; call++) {
            if (seen[call] == 0) {
                wrong++;
                System.out.println("call " + call + " was never made");
            }
        }
        System.out.println(wrong == 0 ? "ModelTest: all as due" : "ModelTest: " + wrong + " wrong");
        if (wrong != 0) {
            System.exit(1);
        }
    }

    private static boolean runsApart(int run, int[] seen) {
        Random random = new Random(run);
        TrimmedPeaks x = new TrimmedPeaks();
        Model model = new Model();
        List<String> told = new ArrayList<>();
        if (run % 10 != 0) {
            String text = randomText(random);
            for (char letter : text.toCharArray()) {
                x.write(letter);
                model.write(letter);
            }
            told.add("text " + text);
            if (x.fault() != model.fault() || x.lay() != model.lay()) {
                System.out.println("run " + run + ": fault or lay is wrong: " + told);
                return true;
            }
        }
        int passes = run % 7 == 3 ? LATE_PASSES : 0;
        for (int i = 0; i < passes; i++) {
            if (x.pass(20) != model.pass(20)) {
                System.out.println("run " + run + ": pass(20) is wrong behind " + told);
                return true;
            }
        }
        told.add("passes of 20 years: " + passes);
        for (int i = passes; i < CALLS; i++) {
            int call = random.nextInt(30);
            int[] a = randomArguments(random, call, model.kinds.size());
            int got = ofClass(x, call, a);
            int want = ofModel(model, call, a);
            seen[call]++;
            told.add(call + Arrays.toString(a) + "=" + want);
            if (got != want) {
                System.out.println("run " + run + ": answered " + got + " at the end of " + told);
                return true;
            }
        }
        return false;
    }

    private static String randomText(Random random) {
        StringBuilder text = new StringBuilder();
        int peaks = 1 + random.nextInt(6);
        int most = random.nextInt(3) == 0 ? 3 : 20;
        for (int p = 0; p < peaks; p++) {
            text.append("p").append(random.nextInt(4)).append(",").append(1 + random.nextInt(20)).append(";");
        }
        for (int items = random.nextInt(18); items > 0; items--) {
            switch (random.nextInt(3)) {
                case 0 -> text.append("s").append(random.nextInt(5)).append(",").append(random.nextInt(4)).append(";");
                case 1 -> text.append("w").append(random.nextInt(most + 1)).append(";");
                default -> text.append("o").append(random.nextInt(peaks)).append(",").append(random.nextInt(5))
                    .append(",").append(1 + random.nextInt(20)).append(";");
            }
        }
        if (random.nextInt(4) == 0) {
            String letters = "pswo0123456789,; x";
            text.setCharAt(random.nextInt(text.length()), letters.charAt(random.nextInt(letters.length())));
        }
        return text.substring(0, Math.min(200, text.length()));
    }

    private static int number(Random random, int from, int to) {
        int kind = random.nextInt(60);
        if (kind == 0) {
            return from - 1;
        }
        if (kind == 1) {
            return to + 1;
        }
        if (kind == 2) {
            int[] wild = {Integer.MIN_VALUE, Integer.MAX_VALUE, -1, 0, 1 << 16, -5, 1 << 30};
            return wild[random.nextInt(wild.length)];
        }
        return from + random.nextInt(to - from + 1);
    }

    private static int[] randomArguments(Random r, int call, int peaks) {
        int p = number(r, 0, peaks - 1);
        int t = number(r, 0, 4);
        switch (call) {
            case 0: return new int[] {number(r, 32, 126)};
            case 4: return new int[] {p, number(r, 0, 5)};
            case 5: case 9: case 16: return new int[] {p, t};
            case 6: return new int[] {t};
            case 7: return new int[] {number(r, 0, 99)};
            case 8: case 10: return new int[] {p, t, number(r, 1, 20)};
            case 11: return new int[] {r.nextInt(4) == 0 ? number(r, 1, 20) : number(r, 1, 2)};
            case 13: case 18: case 23: return new int[] {number(r, 0, 1)};
            case 14: return new int[] {p};
            case 15: return new int[] {number(r, 0, 20), p};
            case 17: return new int[] {number(r, 1, 20)};
            case 19: return new int[] {number(r, -1, 1)};
            case 20: return new int[] {t, number(r, 0, 1)};
            case 24: return new int[] {number(r, -1, peaks - 1)};
            case 25: return new int[] {p, t, number(r, 0, 8), number(r, 0, 10), number(r, 0, 1)};
            case 26: return new int[] {number(r, 0, 9999), number(r, 1, r.nextBoolean() ? 6 : 60), number(r, 0, 1)};
            case 29: return new int[] {number(r, 0, 9)};
            default: return new int[0];
        }
    }

    private static int ofClass(TrimmedPeaks x, int call, int[] a) {
        switch (call) {
            case 0: return x.write(a[0]);
            case 1: return x.wipe();
            case 2: return x.fault();
            case 3: return x.lay();
            case 4: return x.peak(a[0], a[1]);
            case 5: return x.pins(a[0], a[1]);
            case 6: return x.store(a[0]);
            case 7: return x.wind(a[0]);
            case 8: return x.put(a[0], a[1], a[2]);
            case 9: return x.take(a[0], a[1]);
            case 10: return x.pin(a[0], a[1], a[2]);
            case 11: return x.pass(a[0]);
            case 12: return x.undo();
            case 13: return x.alike(a[0]);
            case 14: return x.known(a[0]);
            case 15: return x.behind(a[0], a[1]);
            case 16: return x.goes(a[0], a[1]);
            case 17: return x.hold(a[0]);
            case 18: return x.tell(a[0]);
            case 19: return x.add(a[0]);
            case 20: return x.say(a[0], a[1]);
            case 21: return x.forget();
            case 22: return x.which();
            case 23: return x.ask(a[0]);
            case 24: return x.match(a[0]);
            case 25: return x.storms(a[0], a[1], a[2], a[3], a[4]);
            case 26: return x.century(a[0], a[1], a[2]);
            case 27: return x.keep();
            case 28: return x.back();
            default: return x.count(a[0]);
        }
    }

    private static int ofModel(Model x, int call, int[] a) {
        switch (call) {
            case 0: return x.write(a[0]);
            case 1: return x.wipe();
            case 2: return x.fault();
            case 3: return x.lay();
            case 4: return x.peak(a[0], a[1]);
            case 5: return x.isPlace(a[0], a[1]) ? x.now.pins[a[0]][a[1]] : BAD;
            case 6: return in(a[0], 0, 4) ? x.now.store[a[0]] : BAD;
            case 7: return in(a[0], 0, 99) ? x.windOf(x.now.year + a[0]) : BAD;
            case 8: return x.put(a[0], a[1], a[2]);
            case 9: return x.take(a[0], a[1]);
            case 10: return x.pin(a[0], a[1], a[2]);
            case 11: return x.pass(a[0]);
            case 12: return x.undo();
            case 13: return x.alike(a[0]);
            case 14: return x.isPeak(a[0]) ? x.known(a[0]) : BAD;
            case 15: return x.behind(a[0], a[1]);
            case 16: return x.goes(a[0], a[1]);
            case 17: return x.hold(a[0]);
            case 18: return x.tell(a[0]);
            case 19: return x.add(a[0]);
            case 20: return x.say(a[0], a[1]);
            case 21: return x.forget();
            case 22: return x.which();
            case 23: return x.ask(a[0]);
            case 24: return x.match(a[0]);
            case 25: return x.storms(a[0], a[1], a[2], a[3], a[4]);
            case 26: return x.century(a[0], a[1], a[2]);
            case 27: return x.keep();
            case 28: return x.back();
            default: return x.count(a[0]);
        }
    }

    private static boolean in(int number, int from, int to) {
        return from <= number && number <= to;
    }

    private static final class Stand {
        int[][] pins = new int[6][5];
        int[] store = {2, 2, 2, 2, 2};
        int[] guides = new int[6];
        int year = 0;

        Stand copy() {
            Stand other = new Stand();
            for (int p = 0; p < 6; p++) {
                other.pins[p] = pins[p].clone();
            }
            other.store = store.clone();
            other.guides = guides.clone();
            other.year = year;
            return other;
        }

        int looks(int p) {
            int bits = 0;
            for (int t = 0; t < 5; t++) {
                bits += pins[p][t] > 0 ? (int) Math.pow(2, t) : 0;
            }
            return bits;
        }
    }

    private static final class Model {
        private static final Pattern ITEM = Pattern.compile(
            "p(\\d\\d?),(\\d\\d?);|s(\\d\\d?),(\\d\\d?);|o(\\d\\d?),(\\d\\d?),(\\d\\d?);|w(\\d\\d?);");

        String text = "";
        List<Integer> kinds = new ArrayList<>();
        List<Integer> heights = new ArrayList<>();
        List<Integer> winds = new ArrayList<>();
        Stand now = new Stand();
        Deque<Stand> undone = new ArrayDeque<>();
        Deque<Stand> kept = new ArrayDeque<>();
        List<int[]> said = new ArrayList<>();

        Model() {
            text = "p0,9;p1,14;p2,6;p3,11;p0,17;s0,3;s1,1;s3,4;o0,0,5;o0,2,3;o1,0,9;o2,1,2;o3,0,4;o3,2,6;o4,3,8;"
                + "w3;w5;w2;w7;";
            lay();
            text = "";
        }

        boolean isPeak(int p) {
            return in(p, 0, kinds.size() - 1);
        }

        boolean isPlace(int p, int t) {
            return isPeak(p) && in(t, 0, 4);
        }

        int write(int letter) {
            if (!in(letter, 32, 126)) {
                return BAD;
            }
            if (text.length() == 200) {
                return FULL;
            }
            text += (char) letter;
            return text.length();
        }

        int wipe() {
            int length = text.length();
            text = "";
            return length;
        }

        int fault() {
            return new Reading(text).fault;
        }

        int lay() {
            Reading reading = new Reading(text);
            if (reading.fault != NONE || reading.kinds.isEmpty()) {
                return NO;
            }
            kinds = reading.kinds;
            heights = reading.heights;
            winds = reading.winds;
            now = reading.stand;
            for (int p = 0; p < 6; p++) {
                now.guides[p] = now.looks(p);
            }
            undone.clear();
            kept.clear();
            said.clear();
            return kinds.size();
        }

        private static final class Reading {
            final List<Integer> kinds = new ArrayList<>();
            final List<Integer> heights = new ArrayList<>();
            final List<Integer> winds = new ArrayList<>();
            final Stand stand = new Stand();
            int fault = NONE;

            Reading(String text) {
                Matcher matcher = ITEM.matcher(text);
                int from = 0;
                while (from < text.length() && fault == NONE) {
                    matcher.region(from, text.length());
                    if (!matcher.lookingAt() || !heed(matcher)) {
                        fault = from;
                    } else {
                        from = matcher.end();
                    }
                }
            }

            private boolean heed(Matcher m) {
                int[] n = new int[9];
                for (int i = 1; i <= 8; i++) {
                    n[i] = m.group(i) == null ? -1 : Integer.parseInt(m.group(i));
                }
                if (n[1] >= 0) {
                    kinds.add(n[1]);
                    heights.add(n[2]);
                    return n[1] <= 3 && in(n[2], 1, 20) && kinds.size() <= 6;
                }
                if (n[3] >= 0) {
                    if (n[3] > 4 || n[4] > 9) {
                        return false;
                    }
                    stand.store[n[3]] = n[4];
                    return true;
                }
                if (n[5] >= 0) {
                    if (n[5] >= kinds.size() || n[6] > 4 || !in(n[7], 1, 20)) {
                        return false;
                    }
                    stand.pins[n[5]][n[6]] = n[7];
                    return true;
                }
                winds.add(n[8]);
                return n[8] <= 20 && winds.size() <= 12;
            }
        }

        int windOf(int year) {
            return winds.isEmpty() ? 3 : winds.get(year % winds.size());
        }

        int force(int p, int wind) {
            return Math.max(0, wind + (kinds.get(p) == 1 ? 2 : kinds.get(p) == 2 ? -2 : 0));
        }

        void year(Stand stand, int wind) {
            for (int p = 0; p < kinds.size(); p++) {
                stand.guides[p] = stand.looks(p);
                for (int t = 0; t < 5; t++) {
                    if (stand.pins[p][t] < force(p, wind)) {
                        stand.pins[p][t] = 0;
                    } else if (stand.pins[p][t] > 0) {
                        stand.pins[p][t]--;
                    }
                }
                int lowest = Integer.numberOfTrailingZeros(stand.looks(p));
                if (kinds.get(p) == 3 && lowest < 5) {
                    stand.pins[p][lowest]--;
                }
            }
            stand.year++;
        }

        Stand later(Stand from, int years) {
            Stand stand = from.copy();
            for (int i = 0; i < years; i++) {
                year(stand, windOf(stand.year));
            }
            return stand;
        }

        int peak(int p, int what) {
            if (!isPeak(p) || !in(what, 0, 5)) {
                return BAD;
            }
            int light = 12;
            for (int q = 0; q < kinds.size(); q++) {
                if (Math.abs(p - q) == 1 && heights.get(q) > heights.get(p) && now.pins[q][3] > 0) {
                    light -= 3;
                }
            }
            int[] answers = {kinds.get(p), heights.get(p), now.looks(p), now.guides[p],
                force(p, windOf(now.year)), light};
            return answers[what];
        }

        private void remember() {
            undone.push(now.copy());
            if (undone.size() > 8) {
                undone.removeLast();
            }
        }

        int put(int p, int t, int n) {
            if (!isPlace(p, t) || !in(n, 1, 20)) {
                return BAD;
            }
            if (now.pins[p][t] > 0 || now.store[t] == 0) {
                return NO;
            }
            remember();
            now.pins[p][t] = n;
            now.store[t]--;
            return now.looks(p);
        }

        int take(int p, int t) {
            if (!isPlace(p, t)) {
                return BAD;
            }
            if (now.pins[p][t] == 0) {
                return NO;
            }
            remember();
            now.pins[p][t] = 0;
            now.store[t]++;
            return now.looks(p);
        }

        int pin(int p, int t, int n) {
            if (!isPlace(p, t) || !in(n, 1, 20)) {
                return BAD;
            }
            if (now.pins[p][t] == 0) {
                return NO;
            }
            remember();
            int had = now.pins[p][t];
            now.pins[p][t] = n;
            return had;
        }

        int pass(int n) {
            if (!in(n, 1, 20)) {
                return BAD;
            }
            if (now.year + n > 999) {
                return NO;
            }
            remember();
            now = later(now, n);
            return now.year;
        }

        int undo() {
            if (undone.isEmpty()) {
                return NO;
            }
            now = undone.pop();
            return undone.size();
        }

        List<Integer> pairs(Stand stand, int set) {
            List<Integer> pairs = new ArrayList<>();
            for (int code = 0; code < 60; code++) {
                int p = code / 10;
                int q = code % 10;
                if (p < q && isPeak(p) && isPeak(q) && (stand.looks(p) & set) == (stand.looks(q) & set)) {
                    pairs.add(code);
                }
            }
            return pairs;
        }

        int alike(int what) {
            if (!in(what, 0, 1)) {
                return BAD;
            }
            List<Integer> pairs = pairs(now, 31);
            return what == 0 ? pairs.size() : pairs.isEmpty() ? NONE : pairs.get(0);
        }

        int known(int p) {
            for (int q = 0; q < kinds.size(); q++) {
                if (now.looks(q) == now.guides[p]) {
                    return q;
                }
            }
            return NONE;
        }

        int behind(int n, int p) {
            return isPeak(p) && in(n, 0, 20) ? later(now, n).looks(p) : BAD;
        }

        int goes(int p, int t) {
            if (!isPlace(p, t)) {
                return BAD;
            }
            if (now.pins[p][t] == 0) {
                return NO;
            }
            for (int years = 1; years <= 60; years++) {
                if (later(now, years).pins[p][t] == 0) {
                    return years;
                }
            }
            return NONE;
        }

        /** Each trimming by itself, the others pinned beyond all wind, by letting the years go by. */
        int hold(int n) {
            if (!in(n, 1, 20)) {
                return BAD;
            }
            int sum = 0;
            for (int p = 0; p < kinds.size(); p++) {
                for (int t = 0; t < 5; t++) {
                    Stand sure = now.copy();
                    for (int other = 0; other < 5; other++) {
                        sure.pins[p][other] = now.pins[p][other] > 0 ? 1000 : 0;
                    }
                    int more = 0;
                    sure.pins[p][t] = now.pins[p][t];
                    while (now.pins[p][t] > 0 && later(sure, n).pins[p][t] == 0) {
                        more++;
                        sure.pins[p][t] = now.pins[p][t] + more;
                    }
                    sum += more;
                }
            }
            return sum;
        }

        int tell(int what) {
            if (!in(what, 0, 1)) {
                return BAD;
            }
            List<Integer> sets = new ArrayList<>();
            for (int set = 31; set >= 0; set--) {
                sets.add(set);
            }
            sets.sort(Comparator.<Integer>comparingInt(Integer::bitCount).thenComparing(set -> set));
            for (int set : sets) {
                if (pairs(now, set).isEmpty()) {
                    return what == 0 ? Integer.bitCount(set) : set;
                }
            }
            return NONE;
        }

        int add(int k) {
            if (!in(k, -1, 1)) {
                return BAD;
            }
            List<int[]> sets = new ArrayList<>();
            sets.add(new int[0]);
            for (int a = 0; a < 60; a++) {
                sets.add(new int[] {a});
            }
            for (int a = 0; a < 60; a++) {
                for (int b = a + 1; b < 60; b++) {
                    sets.add(new int[] {a, b});
                }
            }
            for (int[] set : sets) {
                Stand tried = tried(set);
                if (tried != null && pairs(tried, 31).isEmpty()) {
                    return k == -1 ? set.length : k < set.length ? set[k] : NONE;
                }
            }
            return NONE;
        }

        private Stand tried(int[] set) {
            Stand stand = now.copy();
            for (int code : set) {
                int p = code / 10;
                int t = code % 10;
                if (!isPlace(p, t) || stand.pins[p][t] > 0 || stand.store[t] == 0) {
                    return null;
                }
                stand.pins[p][t] = 1;
                stand.store[t]--;
            }
            return stand;
        }

        int say(int t, int is) {
            if (!in(t, 0, 4) || !in(is, 0, 1)) {
                return BAD;
            }
            if (said.size() == 6) {
                return FULL;
            }
            said.add(new int[] {t, is});
            return said.size();
        }

        int forget() {
            int size = said.size();
            said.clear();
            return size;
        }

        int which() {
            int bits = 0;
            for (int p = 0; p < kinds.size(); p++) {
                boolean so = true;
                for (int[] one : said) {
                    so &= (now.pins[p][one[0]] > 0 ? 1 : 0) == one[1];
                }
                bits |= so ? 1 << p : 0;
            }
            return bits;
        }

        int ask(int what) {
            if (!in(what, 0, 1)) {
                return BAD;
            }
            int best = -1;
            int fewest = 99;
            for (int t = 4; t >= 0; t--) {
                int trimming = t;
                int[] parts = new int[2];
                for (int p = 0; p < kinds.size(); p++) {
                    parts[now.pins[p][t] > 0 ? 1 : 0] += which() >> p & 1;
                }
                int greater = Math.max(parts[0], parts[1]);
                if (said.stream().noneMatch(one -> one[0] == trimming) && greater > 0 && greater <= fewest) {
                    best = t;
                    fewest = greater;
                }
            }
            return best < 0 ? NONE : what == 0 ? best : fewest;
        }

        int match(int p) {
            if (p != -1 && !isPeak(p)) {
                return BAD;
            }
            List<List<Integer>> all = new ArrayList<>();
            allWays(new ArrayList<>(), all);
            if (p == -1) {
                return all.size();
            }
            return all.isEmpty() ? NONE : all.get(0).get(p);
        }

        private void allWays(List<Integer> given, List<List<Integer>> all) {
            if (given.size() == kinds.size()) {
                for (int p = 0; p < given.size(); p++) {
                    for (int t = 0; t < 5; t++) {
                        if (now.pins[p][t] > 0 && (now.guides[given.get(p)] >> t & 1) == 0) {
                            return;
                        }
                    }
                }
                all.add(new ArrayList<>(given));
                return;
            }
            for (int whose = 0; whose < kinds.size(); whose++) {
                if (!given.contains(whose)) {
                    given.add(whose);
                    allWays(given, all);
                    given.remove(given.size() - 1);
                }
            }
        }

        int storms(int p, int t, int n, int x, int part) {
            if (!isPlace(p, t) || !in(n, 0, 8) || !in(x, 0, 10) || !in(part, 0, 1)) {
                return BAD;
            }
            BigInteger above = BigInteger.ZERO;
            for (int stormy = 0; stormy < 1 << n; stormy++) {
                Stand stand = now.copy();
                BigInteger weight = BigInteger.ONE;
                for (int i = 0; i < n; i++) {
                    boolean storm = (stormy >> i & 1) == 1;
                    weight = weight.multiply(BigInteger.valueOf(storm ? x : 10 - x));
                    year(stand, storm ? 20 : windOf(stand.year));
                }
                if (stand.pins[p][t] > 0) {
                    above = above.add(weight);
                }
            }
            BigInteger below = BigInteger.TEN.pow(n);
            return (part == 0 ? above : below).divide(above.gcd(below)).intValueExact();
        }

        int century(int z, int n, int what) {
            if (!in(z, 0, 9999) || !in(n, 1, 60) || !in(what, 0, 1)) {
                return BAD;
            }
            Stand stand = now.copy();
            for (int k = 0; k < n; k++) {
                BigInteger x = BigInteger.valueOf(7919).multiply(BigInteger.valueOf(z))
                    .add(BigInteger.valueOf(6151L * k)).add(BigInteger.ONE);
                int draw = x.multiply(x).mod(BigInteger.valueOf(65521)).intValueExact();
                int p = draw / 8 % kinds.size();
                int t = draw / 64 % 5;
                int pins = draw / 512 % 9 + 1;
                boolean on = stand.pins[p][t] > 0;
                switch (draw % 8) {
                    case 0, 1, 2 -> {
                        if (!on && stand.store[t] > 0) {
                            stand.pins[p][t] = pins;
                            stand.store[t]--;
                        }
                    }
                    case 3 -> {
                        if (on) {
                            stand.pins[p][t] = 0;
                            stand.store[t]++;
                        }
                    }
                    case 4 -> stand.pins[p][t] = on ? pins : 0;
                    default -> { }
                }
                year(stand, windOf(stand.year));
            }
            return what == 1 ? pairs(stand, 31).size() : sum(stand)[0];
        }

        int keep() {
            if (kept.size() == 2) {
                return FULL;
            }
            kept.push(now.copy());
            return kept.size();
        }

        int back() {
            if (kept.isEmpty()) {
                return NO;
            }
            now = kept.pop();
            undone.clear();
            return kept.size();
        }

        private int[] sum(Stand stand) {
            int on = 0;
            int pins = 0;
            for (int[] row : stand.pins) {
                on += (int) Arrays.stream(row).filter(n -> n > 0).count();
                pins += Arrays.stream(row).sum();
            }
            return new int[] {on, pins};
        }

        int count(int what) {
            int themselves = 0;
            for (int p = 0; p < kinds.size(); p++) {
                themselves += known(p) == p ? 1 : 0;
            }
            int[] answers = {kinds.size(), now.year, sum(now)[0], Arrays.stream(now.store).sum(), sum(now)[1],
                themselves, said.size(), undone.size(), kept.size(), text.length()};
            return in(what, 0, 9) ? answers[what] : BAD;
        }
    }
}
