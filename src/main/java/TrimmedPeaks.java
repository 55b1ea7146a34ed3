import java.util.Arrays;

/**
 * A range of peaks that milliners trim: told in a text, trimmed, blown about by the year,
 * and told apart by how the peaks look and by last year's guides.
 *
 * <p>Every row is made with the object and used again, so no call makes an object of its own.
 */
public final class TrimmedPeaks {
    public static final int BAD = -1, NO = -2, FULL = -3, NONE = -4;

    private static final String FIRST_TEXT =
        "p0,9;p1,14;p2,6;p3,11;p0,17;s0,3;s1,1;s3,4;o0,0,5;o0,2,3;o1,0,9;o2,1,2;o3,0,4;o3,2,6;o4,3,8;w3;w5;w2;w7;";

    private static final int LETTERS_MOST = 200, LETTER_FIRST = 32, LETTER_LAST = 126, NUMBERS_MOST = 3;
    private static final int PEAKS_MOST = 6, HEIGHT_MOST = 20;
    private static final int KINDS = 4, WINDY = 1, SHELTERED = 2, GOATS = 3;
    private static final int TRIMMINGS = 5, BRIM = 3, ALL_TRIMMINGS = 31, PINS_MOST = 20;
    private static final int STORE_MOST = 9, STORE_WITHOUT = 2;
    private static final int WINDS_MOST = 12, WIND_MOST = 20, WIND_WITHOUT = 3, WIND_BY_KIND = 2;
    private static final int YEAR_MOST = 999, PASS_MOST = 20, LOOK_AHEAD_MOST = 99, GOES_MOST = 60;
    private static final int LIGHT_MOST = 12, SHADE = 3;
    private static final int UNDONE_MOST = 8, KEPT_MOST = 2, SAID_MOST = 6;
    private static final int STORM_YEARS_MOST = 8, TEN = 10;
    private static final int CENTURY_MOST = 60, DRAWS_MOST = 9999;

    /** Where a state's numbers stand: pins by peak and trimming, the store, the guides, the year. */
    private static final int PLACES = 30, STORE_AT = 30, GUIDES_AT = 35, YEAR_AT = 41, STATE_CELLS = 42;

    private final Scribe scribe = new Scribe();
    private final Range range = new Range();
    private final State now = new State();
    private final State trial = new State();
    private final Pile undoable = new Pile(UNDONE_MOST);
    private final Pile kept = new Pile(KEPT_MOST);
    private final int[] faces = new int[PEAKS_MOST];
    private final int[] added = new int[2];
    private final int[] ways = new int[1 << PEAKS_MOST];
    private final int[] gusts = new int[(STORM_YEARS_MOST + 1) * TRIMMINGS];
    private int saidOn, saidOff, saidCount;

    public TrimmedPeaks() {
        scribe.copyDown(FIRST_TEXT);
        layAsTold();
        scribe.length = 0;
    }

    // ---- ranges

    public int write(int letter) {
        if (letter < LETTER_FIRST || letter > LETTER_LAST) {
            return BAD;
        }
        return scribe.append((char) letter) ? scribe.length : FULL;
    }

    public int wipe() {
        int length = scribe.length;
        scribe.length = 0;
        return length;
    }

    public int fault() {
        return scribe.readAll();
    }

    public int lay() {
        return layAsTold() ? range.peaks : NO;
    }

    public int peak(int p, int what) {
        if (!range.isPeak(p)) {
            return BAD;
        }
        switch (what) {
            case 0: return range.kindOf(p);
            case 1: return range.heightOf(p);
            case 2: return now.looksOf(p);
            case 3: return now.guideOf(p);
            case 4: return range.forceAt(p, range.windIn(now.yearNow()));
            case 5: return lightOf(p);
            default: return BAD;
        }
    }

    public int pins(int p, int t) {
        return isPlace(p, t) ? now.pinsOn(p, t) : BAD;
    }

    public int store(int t) {
        return isTrimming(t) ? now.inStore(t) : BAD;
    }

    public int wind(int n) {
        if (n < 0 || n > LOOK_AHEAD_MOST) {
            return BAD;
        }
        return range.windIn(now.yearNow() + n);
    }

    // ---- acts

    public int put(int p, int t, int n) {
        if (!isPlace(p, t) || !isPins(n)) {
            return BAD;
        }
        if (!now.canPut(p, t)) {
            return NO;
        }
        undoable.layBy(now);
        now.putOn(p, t, n);
        return now.looksOf(p);
    }

    public int take(int p, int t) {
        if (!isPlace(p, t)) {
            return BAD;
        }
        if (!now.isOn(p, t)) {
            return NO;
        }
        undoable.layBy(now);
        now.takeOff(p, t);
        return now.looksOf(p);
    }

    public int pin(int p, int t, int n) {
        if (!isPlace(p, t) || !isPins(n)) {
            return BAD;
        }
        if (!now.isOn(p, t)) {
            return NO;
        }
        int had = now.pinsOn(p, t);
        undoable.layBy(now);
        now.setPins(p, t, n);
        return had;
    }

    public int pass(int n) {
        if (n < 1 || n > PASS_MOST) {
            return BAD;
        }
        if (now.yearNow() + n > YEAR_MOST) {
            return NO;
        }
        undoable.layBy(now);
        letYearsGoBy(now, n);
        return now.yearNow();
    }

    public int undo() {
        return undoable.fetch(now) ? undoable.held : NO;
    }

    // ---- what comes

    public int alike(int what) {
        if (!isZeroOrOne(what)) {
            return BAD;
        }
        lookAt(now);
        return what == 0 ? pairsAlike(ALL_TRIMMINGS) : firstPairAlike();
    }

    public int known(int p) {
        return range.isPeak(p) ? knownBy(now.guideOf(p)) : BAD;
    }

    public int behind(int n, int p) {
        if (n < 0 || n > PASS_MOST || !range.isPeak(p)) {
            return BAD;
        }
        trial.become(now);
        letYearsGoBy(trial, n);
        return trial.looksOf(p);
    }

    public int goes(int p, int t) {
        if (!isPlace(p, t)) {
            return BAD;
        }
        if (!now.isOn(p, t)) {
            return NO;
        }
        trial.become(now);
        for (int years = 1; years <= GOES_MOST; years++) {
            trial.letYearGoBy(range);
            if (!trial.isOn(p, t)) {
                return years;
            }
        }
        return NONE;
    }

    public int hold(int n) {
        if (n < 1 || n > PASS_MOST) {
            return BAD;
        }
        int more = 0;
        for (int p = 0; p < range.peaks; p++) {
            more += pinsMoreAt(p, n);
        }
        return more;
    }

    public int tell(int what) {
        if (!isZeroOrOne(what)) {
            return BAD;
        }
        int set = smallestTellingSet();
        if (set == NONE) {
            return NONE;
        }
        return what == 0 ? Integer.bitCount(set) : set;
    }

    public int add(int k) {
        if (k < -1 || k > 1) {
            return BAD;
        }
        int size = searchAdded();
        if (size == NONE || k == -1) {
            return size;
        }
        return k < size ? tenTimesPeakAndTrimming(added[k]) : NONE;
    }

    // ---- guides

    public int say(int t, int is) {
        if (!isTrimming(t) || !isZeroOrOne(is)) {
            return BAD;
        }
        if (saidCount >= SAID_MOST) {
            return FULL;
        }
        if (is == 1) {
            saidOn |= 1 << t;
        } else {
            saidOff |= 1 << t;
        }
        saidCount++;
        return saidCount;
    }

    public int forget() {
        int were = saidCount;
        saidOn = 0;
        saidOff = 0;
        saidCount = 0;
        return were;
    }

    public int which() {
        int peaks = 0;
        for (int p = 0; p < range.peaks; p++) {
            int looks = now.looksOf(p);
            if ((looks & saidOn) == saidOn && (looks & saidOff) == 0) {
                peaks |= 1 << p;
            }
        }
        return peaks;
    }

    public int ask(int what) {
        if (!isZeroOrOne(what)) {
            return BAD;
        }
        int peaks = which();
        int best = peaks == 0 ? NONE : bestToAsk(peaks);
        return best == NONE || what == 0 ? best : greaterPart(peaks, best);
    }

    public int match(int p) {
        if (p != -1 && !range.isPeak(p)) {
            return BAD;
        }
        countWays();
        if (p == -1) {
            return ways[0];
        }
        return ways[0] == 0 ? NONE : guideInFirstWay(p);
    }

    // ---- storms, centuries

    public int storms(int p, int t, int n, int x, int part) {
        if (!isPlace(p, t) || n < 0 || n > STORM_YEARS_MOST || x < 0 || x > TEN || !isZeroOrOne(part)) {
            return BAD;
        }
        for (int other = 0; other < TRIMMINGS; other++) {
            gusts[other] = now.pinsOn(p, other);
        }
        int above = waysToStay(0, n, p, t, x);
        int below = 1;
        for (int i = 0; i < n; i++) {
            below *= TEN;
        }
        return part == 0 ? inLowestTerms(above, below, n) : inLowestTerms(below, above, n);
    }

    public int century(int z, int n, int what) {
        if (z < 0 || z > DRAWS_MOST || n < 1 || n > CENTURY_MOST || !isZeroOrOne(what)) {
            return BAD;
        }
        trial.become(now);
        for (int k = 0; k < n; k++) {
            trimByDraw(trial, drawOf(z, k));
            trial.letYearGoBy(range);
        }
        lookAt(trial);
        return what == 0 ? trial.trimmingsOn() : pairsAlike(ALL_TRIMMINGS);
    }

    public int keep() {
        if (kept.held >= KEPT_MOST) {
            return FULL;
        }
        kept.layBy(now);
        return kept.held;
    }

    public int back() {
        if (!kept.fetch(now)) {
            return NO;
        }
        undoable.held = 0;
        return kept.held;
    }

    public int count(int what) {
        switch (what) {
            case 0: return range.peaks;
            case 1: return now.yearNow();
            case 2: return now.trimmingsOn();
            case 3: return now.sumOf(STORE_AT, TRIMMINGS);
            case 4: return now.sumOf(0, PLACES);
            case 5: return peaksKnownAsThemselves();
            case 6: return saidCount;
            case 7: return undoable.held;
            case 8: return kept.held;
            case 9: return scribe.length;
            default: return BAD;
        }
    }

    // ---- what numbers are told

    private static boolean isZeroOrOne(int what) {
        return what == 0 || what == 1;
    }

    private static boolean isTrimming(int t) {
        return t >= 0 && t < TRIMMINGS;
    }

    private static boolean isPins(int n) {
        return n >= 1 && n <= PINS_MOST;
    }

    private boolean isPlace(int p, int t) {
        return range.isPeak(p) && isTrimming(t);
    }

    // ---- laying, light, years

    private boolean layAsTold() {
        if (scribe.readAll() != NONE || scribe.range.peaks < 1) {
            return false;
        }
        range.become(scribe.range);
        now.become(scribe.state);
        now.makeGuides();
        undoable.held = 0;
        kept.held = 0;
        forget();
        return true;
    }

    private int lightOf(int p) {
        return LIGHT_MOST - shadeBy(p - 1, p) - shadeBy(p + 1, p);
    }

    private int shadeBy(int beside, int p) {
        boolean shades = range.isPeak(beside)
            && range.heightOf(beside) > range.heightOf(p)
            && now.isOn(beside, BRIM);
        return shades ? SHADE : 0;
    }

    private void letYearsGoBy(State state, int n) {
        for (int i = 0; i < n; i++) {
            state.letYearGoBy(range);
        }
    }

    /** A year at one peak, whose five numbers of pins stand in the row from a place on. */
    private static void weather(int[] row, int at, int force, boolean goats) {
        if (row == null || at < 0 || at > row.length - TRIMMINGS) {
            return;
        }
        for (int i = at; i < at + TRIMMINGS; i++) {
            row[i] = row[i] < force || row[i] < 1 ? 0 : row[i] - 1;
        }
        if (!goats) {
            return;
        }
        for (int i = at; i < at + TRIMMINGS; i++) {
            if (row[i] > 0) {
                row[i]--;
                return;
            }
        }
    }

    // ---- looks

    /** The faces are kept apart from the state so that trimmings can be tried on them. */
    private void lookAt(State state) {
        for (int p = 0; p < PEAKS_MOST; p++) {
            faces[p] = state.looksOf(p);
        }
    }

    private int pairsAlike(int bySet) {
        int pairs = 0;
        for (int p = 0; p < range.peaks; p++) {
            for (int other = p + 1; other < range.peaks; other++) {
                if (((faces[p] ^ faces[other]) & bySet) == 0) {
                    pairs++;
                }
            }
        }
        return pairs;
    }

    private int firstPairAlike() {
        for (int p = 0; p < range.peaks; p++) {
            for (int other = p + 1; other < range.peaks; other++) {
                if (faces[p] == faces[other]) {
                    return 10 * p + other;
                }
            }
        }
        return NONE;
    }

    private int knownBy(int guide) {
        for (int p = 0; p < range.peaks; p++) {
            if (now.looksOf(p) == guide) {
                return p;
            }
        }
        return NONE;
    }

    private int peaksKnownAsThemselves() {
        int peaks = 0;
        for (int p = 0; p < range.peaks; p++) {
            if (knownBy(now.guideOf(p)) == p) {
                peaks++;
            }
        }
        return peaks;
    }

    private int smallestTellingSet() {
        lookAt(now);
        int best = NONE;
        for (int set = 0; set <= ALL_TRIMMINGS; set++) {
            boolean isSmaller = best == NONE || Integer.bitCount(set) < Integer.bitCount(best);
            if (isSmaller && pairsAlike(set) == 0) {
                best = set;
            }
        }
        return best;
    }

    // ---- hold

    /** Goats always eat at the same trimming here, since none below it is ever to be gone. */
    private int pinsMoreAt(int p, int years) {
        int more = 0;
        int lostByYear = range.hasGoats(p) ? 2 : 1;
        for (int t = 0; t < TRIMMINGS; t++) {
            if (now.isOn(p, t)) {
                more += Math.max(0, pinsToHold(p, years, lostByYear) - now.pinsOn(p, t));
                lostByYear = 1;
            }
        }
        return more;
    }

    private int pinsToHold(int p, int years, int lostByYear) {
        int needed = lostByYear * years + 1;
        for (int i = 0; i < years; i++) {
            int force = range.forceAt(p, range.windIn(now.yearNow() + i));
            needed = Math.max(needed, force + lostByYear * i);
        }
        return needed;
    }

    // ---- add: a place is 5 times the peak, and the trimming

    /** How many trimmings the set has (NONE: there is no such set); its places are left in added. */
    private int searchAdded() {
        lookAt(now);
        if (pairsAlike(ALL_TRIMMINGS) == 0) {
            return 0;
        }
        if (isOneAddedEnough()) {
            return 1;
        }
        return areTwoAddedEnough() ? 2 : NONE;
    }

    private boolean isOneAddedEnough() {
        for (int place = 0; place < range.peaks * TRIMMINGS; place++) {
            if (canPutAt(place) && isApartWith(place)) {
                added[0] = place;
                return true;
            }
        }
        return false;
    }

    private boolean areTwoAddedEnough() {
        for (int place = 0; place < range.peaks * TRIMMINGS; place++) {
            if (canPutAt(place)) {
                turn(place);
                boolean found = findSecondAdded(place);
                turn(place);
                if (found) {
                    added[0] = place;
                    return true;
                }
            }
        }
        return false;
    }

    private boolean findSecondAdded(int first) {
        for (int place = first + 1; place < range.peaks * TRIMMINGS; place++) {
            boolean isSame = place % TRIMMINGS == first % TRIMMINGS;
            boolean isStored = !isSame || now.inStore(place % TRIMMINGS) >= 2;
            if (isStored && canPutAt(place) && isApartWith(place)) {
                added[1] = place;
                return true;
            }
        }
        return false;
    }

    private boolean canPutAt(int place) {
        return now.canPut(place / TRIMMINGS, place % TRIMMINGS);
    }

    private boolean isApartWith(int place) {
        turn(place);
        boolean isApart = pairsAlike(ALL_TRIMMINGS) == 0;
        turn(place);
        return isApart;
    }

    private void turn(int place) {
        if (place >= 0 && place < PLACES) {
            faces[place / TRIMMINGS] ^= 1 << place % TRIMMINGS;
        }
    }

    private static int tenTimesPeakAndTrimming(int place) {
        return 10 * (place / TRIMMINGS) + place % TRIMMINGS;
    }

    // ---- ask, match

    private int bestToAsk(int peaks) {
        int best = NONE;
        for (int t = 0; t < TRIMMINGS; t++) {
            boolean isSaid = ((saidOn | saidOff) >> t & 1) == 1;
            if (!isSaid && (best == NONE || greaterPart(peaks, t) < greaterPart(peaks, best))) {
                best = t;
            }
        }
        return best;
    }

    private int greaterPart(int peaks, int t) {
        int with = 0;
        for (int p = 0; p < range.peaks; p++) {
            if ((peaks >> p & 1) == 1 && now.isOn(p, t)) {
                with++;
            }
        }
        return Math.max(with, Integer.bitCount(peaks) - with);
    }

    private boolean fitsGuideOf(int p, int whose) {
        return (now.looksOf(p) & ~now.guideOf(whose)) == 0;
    }

    /** Ways for the peaks that are left, by which guides are given away (bits): the lowest peaks have them. */
    private void countWays() {
        int all = (1 << range.peaks) - 1;
        for (int given = all; given >= 0; given--) {
            int sum = given == all ? 1 : 0;
            for (int whose = 0; whose < range.peaks; whose++) {
                if ((given >> whose & 1) == 0 && fitsGuideOf(Integer.bitCount(given), whose)) {
                    sum += ways[given | 1 << whose];
                }
            }
            ways[given] = sum;
        }
    }

    private int guideInFirstWay(int p) {
        int given = 0;
        int last = NONE;
        for (int next = 0; next <= p; next++) {
            last = lowestGuideFor(next, given);
            if (last == NONE) {
                return NONE;
            }
            given |= 1 << last;
        }
        return last;
    }

    private int lowestGuideFor(int p, int given) {
        for (int whose = 0; whose < range.peaks; whose++) {
            boolean isFree = (given >> whose & 1) == 0;
            if (isFree && fitsGuideOf(p, whose) && ways[given | 1 << whose] > 0) {
                return whose;
            }
        }
        return NONE;
    }

    // ---- storms, centuries

    /** Of ten to the power of the years left, how many leave the trimming on; a level has a row of gusts. */
    private int waysToStay(int level, int years, int p, int t, int x) {
        if (level < 0 || level > STORM_YEARS_MOST || gusts[level * TRIMMINGS + t] == 0) {
            return 0;
        }
        if (level >= years) {
            return 1;
        }
        int stay = 0;
        if (x > 0 && blowGust(level, p, WIND_MOST)) {
            stay += x * waysToStay(level + 1, years, p, t, x);
        }
        if (x < TEN && blowGust(level, p, range.windIn(now.yearNow() + level))) {
            stay += (TEN - x) * waysToStay(level + 1, years, p, t, x);
        }
        return stay;
    }

    private boolean blowGust(int level, int p, int wind) {
        if (level < 0 || level >= STORM_YEARS_MOST) {
            return false;
        }
        int next = (level + 1) * TRIMMINGS;
        System.arraycopy(gusts, level * TRIMMINGS, gusts, next, TRIMMINGS);
        weather(gusts, next, range.forceAt(p, wind), range.hasGoats(p));
        return true;
    }

    /** One of both is ten to the power, so only 2 and 5 can be common to them, each so often at most. */
    private static int inLowestTerms(int number, int other, int power) {
        int lowest = number;
        int beside = other;
        for (int i = 0; i < power; i++) {
            if (lowest % 2 == 0 && beside % 2 == 0) {
                lowest /= 2;
                beside /= 2;
            }
            if (lowest % 5 == 0 && beside % 5 == 0) {
                lowest /= 5;
                beside /= 5;
            }
        }
        return lowest;
    }

    private static int drawOf(int z, int k) {
        long x = 7919L * z + 6151L * k + 1;
        return (int) (x * x % 65521);
    }

    private void trimByDraw(State state, int draw) {
        if (range.peaks < 1) {
            return;
        }
        int act = draw % 8;
        int p = draw / 8 % range.peaks;
        int t = draw / 64 % TRIMMINGS;
        int n = draw / 512 % 9 + 1;
        if (act <= 2 && state.canPut(p, t)) {
            state.putOn(p, t, n);
        } else if (act == 3 && state.isOn(p, t)) {
            state.takeOff(p, t);
        } else if (act == 4 && state.isOn(p, t)) {
            state.setPins(p, t, n);
        }
    }

    /** What is told of a range and never changes: its peaks and its winds. */
    private static final class Range {
        private final int[] kinds = new int[PEAKS_MOST];
        private final int[] heights = new int[PEAKS_MOST];
        private final int[] winds = new int[WINDS_MOST];
        private int peaks, windsTold;

        private void clear() {
            peaks = 0;
            windsTold = 0;
        }

        private void become(Range other) {
            System.arraycopy(other.kinds, 0, kinds, 0, PEAKS_MOST);
            System.arraycopy(other.heights, 0, heights, 0, PEAKS_MOST);
            System.arraycopy(other.winds, 0, winds, 0, WINDS_MOST);
            peaks = other.peaks;
            windsTold = other.windsTold;
        }

        private boolean tellPeak(int kind, int height) {
            if (kind < 0 || kind >= KINDS || height < 1 || height > HEIGHT_MOST || peaks >= PEAKS_MOST) {
                return false;
            }
            kinds[peaks] = kind;
            heights[peaks] = height;
            peaks++;
            return true;
        }

        private boolean tellWind(int strength) {
            if (strength < 0 || strength > WIND_MOST || windsTold >= WINDS_MOST) {
                return false;
            }
            winds[windsTold] = strength;
            windsTold++;
            return true;
        }

        private boolean isPeak(int p) {
            return p >= 0 && p < peaks;
        }

        private int kindOf(int p) {
            return isPeak(p) ? kinds[p] : 0;
        }

        private int heightOf(int p) {
            return isPeak(p) ? heights[p] : 0;
        }

        private boolean hasGoats(int p) {
            return kindOf(p) == GOATS;
        }

        private int windIn(int year) {
            return windsTold < 1 || year < 0 ? WIND_WITHOUT : winds[year % windsTold];
        }

        private int forceAt(int p, int strength) {
            int kind = kindOf(p);
            if (kind == WINDY) {
                return strength + WIND_BY_KIND;
            }
            return kind == SHELTERED ? Math.max(0, strength - WIND_BY_KIND) : strength;
        }
    }

    /** What changes by acts and years, as one row of numbers, so that a pile can hold several behind one another. */
    private static final class State {
        private final int[] cells = new int[STATE_CELLS];

        private void clear() {
            Arrays.fill(cells, 0);
            Arrays.fill(cells, STORE_AT, GUIDES_AT, STORE_WITHOUT);
        }

        private void become(State other) {
            System.arraycopy(other.cells, 0, cells, 0, STATE_CELLS);
        }

        private int pinsOn(int p, int t) {
            int place = p * TRIMMINGS + t;
            return place >= 0 && place < PLACES ? cells[place] : 0;
        }

        private void setPins(int p, int t, int n) {
            int place = p * TRIMMINGS + t;
            if (place >= 0 && place < PLACES) {
                cells[place] = n;
            }
        }

        private boolean isOn(int p, int t) {
            return pinsOn(p, t) > 0;
        }

        private int looksOf(int p) {
            int looks = 0;
            for (int t = 0; t < TRIMMINGS; t++) {
                if (isOn(p, t)) {
                    looks |= 1 << t;
                }
            }
            return looks;
        }

        private int inStore(int t) {
            return isTrimming(t) ? cells[STORE_AT + t] : 0;
        }

        private void setStore(int t, int n) {
            if (isTrimming(t)) {
                cells[STORE_AT + t] = n;
            }
        }

        private int guideOf(int p) {
            return p >= 0 && p < PEAKS_MOST ? cells[GUIDES_AT + p] : 0;
        }

        private void makeGuides() {
            for (int p = 0; p < PEAKS_MOST; p++) {
                cells[GUIDES_AT + p] = looksOf(p);
            }
        }

        private int yearNow() {
            return cells[YEAR_AT];
        }

        private boolean canPut(int p, int t) {
            return isTrimming(t) && pinsOn(p, t) == 0 && cells[STORE_AT + t] > 0;
        }

        private void putOn(int p, int t, int n) {
            setPins(p, t, n);
            setStore(t, inStore(t) - 1);
        }

        private void takeOff(int p, int t) {
            setPins(p, t, 0);
            setStore(t, inStore(t) + 1);
        }

        private void letYearGoBy(Range range) {
            makeGuides();
            int strength = range.windIn(yearNow());
            for (int p = 0; p < range.peaks; p++) {
                weather(cells, p * TRIMMINGS, range.forceAt(p, strength), range.hasGoats(p));
            }
            cells[YEAR_AT]++;
        }

        private int trimmingsOn() {
            int on = 0;
            for (int p = 0; p < PEAKS_MOST; p++) {
                on += Integer.bitCount(looksOf(p));
            }
            return on;
        }

        private int sumOf(int from, int cellsMany) {
            int sum = 0;
            for (int i = Math.max(0, from); i < from + cellsMany && i < STATE_CELLS; i++) {
                sum += cells[i];
            }
            return sum;
        }
    }

    /** States laid by, the latest on top; one more than it holds pushes out the oldest. */
    private static final class Pile {
        private final int most;
        private final int[] cells;
        private int held, next;

        private Pile(int most) {
            this.most = Math.max(1, most);
            this.cells = new int[this.most * STATE_CELLS];
        }

        private void layBy(State state) {
            System.arraycopy(state.cells, 0, cells, next * STATE_CELLS, STATE_CELLS);
            next = next + 1 < most ? next + 1 : 0;
            held = Math.min(held + 1, most);
        }

        private boolean fetch(State state) {
            if (held < 1) {
                return false;
            }
            next = next > 0 ? next - 1 : most - 1;
            held--;
            System.arraycopy(cells, next * STATE_CELLS, state.cells, 0, STATE_CELLS);
            return true;
        }
    }

    /** The text, and the range and state that it tells as far as it has been read. */
    private static final class Scribe {
        private final char[] letters = new char[LETTERS_MOST];
        private final int[] numbers = new int[NUMBERS_MOST];
        private final Range range = new Range();
        private final State state = new State();
        private int length, at;

        private void copyDown(String text) {
            length = 0;
            for (int i = 0; i < text.length(); i++) {
                append(text.charAt(i));
            }
        }

        private boolean append(char letter) {
            if (length >= LETTERS_MOST) {
                return false;
            }
            letters[length] = letter;
            length++;
            return true;
        }

        /** The place of the first item that is not so, or NONE. */
        private int readAll() {
            range.clear();
            state.clear();
            at = 0;
            for (int items = 0; items < LETTERS_MOST && at < length; items++) {
                int first = at;
                if (!readItem() || !heed(letterAt(first))) {
                    return first;
                }
            }
            return NONE;
        }

        /** Whether there are as many numbers behind the letter as it wants, parted and ended as told. */
        private boolean readItem() {
            int many = numbersBehind(letterAt(at));
            at++;
            for (int i = 0; i < many && i < NUMBERS_MOST; i++) {
                numbers[i] = readNumber();
                char parted = i + 1 < many ? ',' : ';';
                if (numbers[i] < 0 || letterAt(at) != parted) {
                    return false;
                }
                at++;
            }
            return many > 0;
        }

        private static int numbersBehind(char kind) {
            if (kind == 'o') {
                return 3;
            }
            return kind == 'w' ? 1 : kind == 'p' || kind == 's' ? 2 : 0;
        }

        /** A number of one or two figures; below 0: there is none. */
        private int readNumber() {
            int first = letterAt(at) - '0';
            if (first < 0 || first > 9) {
                return -1;
            }
            at++;
            int second = letterAt(at) - '0';
            if (second < 0 || second > 9) {
                return first;
            }
            at++;
            return 10 * first + second;
        }

        /** Behind the end there is a letter that no item has. */
        private char letterAt(int place) {
            return place >= 0 && place < length && place < LETTERS_MOST ? letters[place] : ' ';
        }

        private boolean heed(char kind) {
            if (kind == 'p') {
                return range.tellPeak(numbers[0], numbers[1]);
            }
            if (kind == 's') {
                return tellStore(numbers[0], numbers[1]);
            }
            if (kind == 'o') {
                return tellOn(numbers[0], numbers[1], numbers[2]);
            }
            return kind == 'w' && range.tellWind(numbers[0]);
        }

        private boolean tellStore(int t, int n) {
            if (!isTrimming(t) || n < 0 || n > STORE_MOST) {
                return false;
            }
            state.setStore(t, n);
            return true;
        }

        private boolean tellOn(int p, int t, int n) {
            if (!range.isPeak(p) || !isTrimming(t) || !isPins(n)) {
                return false;
            }
            state.setPins(p, t, n);
            return true;
        }
    }
}
