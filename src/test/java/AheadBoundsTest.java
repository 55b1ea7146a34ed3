/** Promises 15 to 21: which look alike, what comes, what tells apart; each sentence at its bounds. */
public final class AheadBoundsTest extends Checks {
    private static final String NO_STORE = "s0,0;s1,0;s2,0;s3,0;s4,0;";

    public static void main(String[] args) {
        sentence("15 ALIKE: how many pairs", AheadBoundsTest::pairsMany);
        sentence("15 ALIKE: 10 times the lower, and the other", AheadBoundsTest::eachPair);
        sentence("15 ALIKE: the first; none", AheadBoundsTest::firstPair);
        sentence("15 what is 0 or 1", AheadBoundsTest::whatIsZeroOrOne);
        sentence("16 KNOWN: the lowest PEAK that LOOKS as the GUIDE tells", AheadBoundsTest::knownLowest);
        sentence("16 KNOWN: none", AheadBoundsTest::knownByNone);
        sentence("17 BEHIND 0 to 20 YEARS", AheadBoundsTest::behindYears);
        sentence("17 BEHIND: as when the YEARS go by", AheadBoundsTest::behindAsPassed);
        sentence("17 BEHIND: beyond the last YEAR, too", AheadBoundsTest::behindLastYear);
        sentence("18 GOES: behind how many YEARS", AheadBoundsTest::goesByPins);
        sentence("18 GOES: as when the YEARS go by", AheadBoundsTest::goesAsPassed);
        sentence("18 GOES: NO, it is not ON", AheadBoundsTest::goesNotOn);
        sentence("19 HOLD: 1 PIN a YEAR", AheadBoundsTest::holdByYears);
        sentence("19 HOLD: 2 PINS a YEAR of the lowest at GOATS", AheadBoundsTest::holdByGoats);
        sentence("19 HOLD: as many as FORCE", AheadBoundsTest::holdByForce);
        sentence("19 HOLD: each of n YEARS, none behind them", AheadBoundsTest::holdEachYear);
        sentence("19 HOLD: 1 to 20 YEARS, beyond 20 PINS, too", AheadBoundsTest::holdBounds);
        sentence("19 HOLD: the fewest in sum", AheadBoundsTest::holdSum);
        sentence("19 HOLD: so many hold, one fewer does not", AheadBoundsTest::holdHolds);
        sentence("20 TELL: none are needed for one PEAK", AheadBoundsTest::tellOne);
        sentence("20 TELL: of fewest", AheadBoundsTest::tellFewest);
        sentence("20 TELL: of several the lowest", AheadBoundsTest::tellLowest);
        sentence("20 TELL: none", AheadBoundsTest::tellNone);
        sentence("21 ADD: none are needed", AheadBoundsTest::addNothing);
        sentence("21 ADD: one", AheadBoundsTest::addOne);
        sentence("21 ADD: two, not three", AheadBoundsTest::addTwoAtMost);
        sentence("21 ADD: each as it can be", AheadBoundsTest::addAsCanBe);
        sentence("21 ADD: both together of the STORE", AheadBoundsTest::addBothOfStore);
        sentence("21 ADD: of several the first", AheadBoundsTest::addFirst);
        sentence("21 ADD: k is -1, 0, 1", AheadBoundsTest::addWhich);
        end("AheadBoundsTest");
    }

    private static void addIs(String what, TrimmedPeaks x, int many, int first, int second) {
        due(what + ", how many", x.add(-1), many);
        due(what + ", the first", x.add(0), first);
        due(what + ", the second", x.add(1), second);
    }

    private static void tellIs(String what, TrimmedPeaks x, int many, int set) {
        due(what + ", how many", x.tell(0), many);
        due(what + ", which", x.tell(1), set);
    }

    private static void pairsMany() {
        int[] pairs = {0, 1, 3, 6, 10, 15};
        for (int peaks = 1; peaks <= 6; peaks++) {
            TrimmedPeaks x = laid("p0,1;".repeat(peaks));
            due("all alike of " + peaks, x.alike(0), pairs[peaks - 1]);
            due("the first of " + peaks, x.alike(1), peaks == 1 ? NONE : 1);
            x.put(0, VEIL, 1);
            due("one apart of " + peaks, x.alike(0), peaks == 1 ? 0 : pairs[peaks - 2]);
        }
        TrimmedPeaks two = laid("p0,1;p1,2;p2,3;p3,4;o0,0,1;o1,4,2;o2,0,20;o3,4,9;");
        due("pins, kinds and heights don't tell", two.alike(0), 2);
    }

    /** All peaks look each in their own way, but for one pair. */
    private static void eachPair() {
        for (int lower = 0; lower < 6; lower++) {
            for (int other = lower + 1; other < 6; other++) {
                StringBuilder text = new StringBuilder("p0,1;".repeat(6));
                for (int p = 0; p < 6; p++) {
                    int looks = p == other ? lower : p;
                    text.append(looks == 0 ? "" : "o" + p + "," + (looks - 1) + ",1;");
                }
                TrimmedPeaks x = laid(text.toString());
                due("pairs", x.alike(0), 1);
                due("the pair", x.alike(1), 10 * lower + other);
                tellIs("a pair alike", x, NONE, NONE);
            }
        }
    }

    private static void firstPair() {
        due("05 ahead of 12", laid("p0,1;".repeat(6) + "o1,0,1;o2,0,1;o3,1,1;o4,2,1;").alike(1), 5);
        due("15 ahead of 23", laid("p0,1;".repeat(6) + "o0,4,1;o2,0,1;o3,0,1;o4,2,1;").alike(1), 15);
        due("12 ahead of 13", laid("p0,1;".repeat(4) + "o0,4,1;").alike(1), 12);
        TrimmedPeaks apart = laid("p0,1;p0,1;o0,4,1;");
        due("none", apart.alike(0), 0);
        due("the first of none", apart.alike(1), NONE);
        apart.take(0, LACE);
        due("one", apart.alike(0), 1);
        due("the first of one", apart.alike(1), 1);
    }

    private static void whatIsZeroOrOne() {
        TrimmedPeaks x = new TrimmedPeaks();
        badBeyond("alike", x::alike, 0, 1);
        badBeyond("tell", x::tell, 0, 1);
        badBeyond("ask", x::ask, 0, 1);
        badBeyond("say", is -> x.say(VEIL, is), 0, 1);
        badBeyond("storms", part -> x.storms(0, VEIL, 1, 1, part), 0, 1);
        badBeyond("century", what -> x.century(1, 1, what), 0, 1);
        due("nothing said", x.count(6), 0);
    }

    private static void knownLowest() {
        TrimmedPeaks x = laid("p0,1;p0,1;p0,1;o0,0,1;o1,0,9;o2,0,9;w0;");
        for (int p = 0; p < 3; p++) {
            due("the first of three alike, " + p, x.known(p), 0);
        }
        x.pass(1);
        for (int p = 0; p < 3; p++) {
            due("the second, the first being bare, " + p, x.known(p), 1);
        }
        x.take(1, VEIL);
        due("the last", x.known(0), 2);
        x.pass(1);
        due("by the guide of this year", x.known(0), 0);
        due("one that is itself known", x.known(2), 2);
    }

    private static void knownByNone() {
        TrimmedPeaks x = laid("p0,1;p0,1;o0,0,9;o1,0,9;o1,1,9;");
        due("itself", x.known(0), 0);
        x.put(0, LACE, 1);
        due("more than the guide tells", x.known(0), NONE);
        due("the other", x.known(1), 1);
        x.take(0, LACE);
        x.take(0, VEIL);
        due("less than the guide tells", x.known(0), NONE);
        x.take(1, BOW);
        due("the other looks so", x.known(0), 1);
        due("of one that looks so no more", x.known(1), NONE);
    }

    private static void behindYears() {
        TrimmedPeaks x = laid("p0,1;p3,1;o0,0,20;o0,1,19;o0,2,1;o1,0,20;w0;");
        due("0", x.behind(0, 0), 7);
        due("1", x.behind(1, 0), 3);
        due("18", x.behind(18, 0), 3);
        due("19", x.behind(19, 0), 1);
        due("20", x.behind(20, 0), 0);
        due("9 at goats", x.behind(9, 1), 1);
        due("10 at goats", x.behind(10, 1), 0);
        badBeyond("behind", n -> x.behind(n, 0), 0, 20);
        x.pass(1);
        due("19 behind the first", x.behind(19, 0), 0);
        due("18 behind the first", x.behind(18, 0), 1);
        x.pin(0, BOW, 20);
        due("as it is pinned now", x.behind(19, 0), 2);
    }

    private static void behindAsPassed() {
        TrimmedPeaks still = new TrimmedPeaks();
        TrimmedPeaks passing = new TrimmedPeaks();
        still.put(4, LACE, 20);
        passing.put(4, LACE, 20);
        for (int n = 0; n <= 20; n++) {
            for (int p = 0; p < 5; p++) {
                due("behind " + n + " on " + p, still.behind(n, p), passing.peak(p, 2));
            }
            passing.pass(1);
        }
        due("the year stays", still.count(1), 0);
        due("pins stay", still.count(4), 57);
        due("guides stay", still.peak(0, 3), 5);
        due("nothing to undo but put", still.count(7), 1);
    }

    private static void behindLastYear() {
        TrimmedPeaks x = inYear(laid("p0,1;w0;w3;"), 999);
        x.put(0, VEIL, 3);
        x.put(0, BOW, 2);
        due("the wind of 999", x.behind(1, 0), 1);
        due("two years", x.behind(2, 0), 1);
        due("three years", x.behind(3, 0), 0);
        due("goes", x.goes(0, VEIL), 3);
        due("hold", x.hold(2), 1);
        due("still 999", x.count(1), 999);
    }

    private static void goesByPins() {
        for (int pins = 1; pins <= 20; pins++) {
            TrimmedPeaks x = laid("p0,1;p3,1;p1,1;o0,0," + pins + ";o1,4," + pins + ";o2,2," + pins + ";w0;w0;w10;");
            due("by pins, " + pins, laid("p0,1;o0,0," + pins + ";w0;").goes(0, VEIL), pins);
            due("by wind in the third year, " + pins, x.goes(0, VEIL), goesInThirdWind(pins, 10));
            due("at a windy one, " + pins, x.goes(2, FEATHER), pins == 1 ? 1 : goesInThirdWind(pins, 12));
            due("by goats, " + pins, laid("p3,1;o0,0," + pins + ";w0;").goes(0, VEIL), (pins + 1) / 2);
        }
    }

    /** The winds are 0, 0, 10: in the third, sixth, .. year so many pins must be left. */
    private static int goesInThirdWind(int pins, int force) {
        for (int years = 1; years < pins; years++) {
            int left = pins - years + 1;
            boolean isBlown = years % 3 == 0 ? left < force : left < force - 10;
            if (isBlown) {
                return years;
            }
        }
        return pins;
    }

    private static void goesAsPassed() {
        TrimmedPeaks still = new TrimmedPeaks();
        int[][] on = {{0, VEIL}, {0, FEATHER}, {1, VEIL}, {2, BOW}, {3, VEIL}, {3, FEATHER}, {4, BRIM}};
        for (int[] place : on) {
            int years = still.goes(place[0], place[1]);
            TrimmedPeaks passing = new TrimmedPeaks();
            for (int i = 1; i < years; i++) {
                passing.pass(1);
            }
            due("on until then", passing.pins(place[0], place[1]) > 0 ? 1 : 0, 1);
            due("goes in the next", passing.goes(place[0], place[1]), 1);
            passing.pass(1);
            due("gone then", passing.pins(place[0], place[1]), 0);
        }
        due("the year stays", still.count(1), 0);
        due("pins stay", still.count(4), 37);
    }

    private static void goesNotOn() {
        TrimmedPeaks x = laid("p0,1;p0,1;o0,0,1;w0;");
        due("on", x.goes(0, VEIL), 1);
        due("never on", x.goes(0, BOW), NO);
        due("on the other", x.goes(1, VEIL), NO);
        x.pass(1);
        due("gone", x.goes(0, VEIL), NO);
        x.put(0, VEIL, 2);
        due("on again", x.goes(0, VEIL), 2);
    }

    private static void holdByYears() {
        for (int pins = 1; pins <= 20; pins++) {
            TrimmedPeaks x = laid("p0,1;o0,3," + pins + ";w0;");
            for (int n = 1; n <= 20; n++) {
                due("hold " + n + " with " + pins, x.hold(n), Math.max(0, n + 1 - pins));
            }
        }
    }

    private static void holdByGoats() {
        for (int pins = 1; pins <= 20; pins++) {
            TrimmedPeaks x = laid("p3,1;o0,3," + pins + ";w0;");
            TrimmedPeaks two = laid("p3,1;o0,1,20;o0,3," + pins + ";w0;");
            for (int n = 1; n <= 20; n++) {
                due("hold " + n + " with " + pins, x.hold(n), Math.max(0, 2 * n + 1 - pins));
                int ofLowest = Math.max(0, 2 * n + 1 - 20);
                due("hold " + n + ", not the lowest, with " + pins, two.hold(n), ofLowest + Math.max(0, n + 1 - pins));
            }
        }
        due("11 for the lowest, 10 for the other", laid("p3,1;o0,1,1;o0,2,1;w0;w9;").hold(2), 10 + 9);
    }

    private static void holdByForce() {
        int[] more = {0, 2, -2, 0};
        for (int kind = 0; kind <= 3; kind++) {
            for (int wind = 0; wind <= 20; wind++) {
                int needed = Math.max(kind == 3 ? 3 : 2, Math.max(0, wind + more[kind]));
                TrimmedPeaks x = laid("p" + kind + ",1;o0,0,1;w" + wind + ";");
                due("hold 1, kind " + kind + " in " + wind, x.hold(1), needed - 1);
            }
        }
        due("as many as force", laid("p0,1;o0,0,7;w7;").hold(1), 0);
        due("one fewer", laid("p0,1;o0,0,6;w7;").hold(1), 1);
        due("one more", laid("p0,1;o0,0,8;w7;").hold(1), 0);
    }

    private static void holdEachYear() {
        TrimmedPeaks x = laid("p0,1;o0,0,1;w0;w0;w15;w0;");
        due("hold 1", x.hold(1), 1);
        due("hold 2", x.hold(2), 2);
        due("hold 3", x.hold(3), 16);
        due("hold 4", x.hold(4), 16);
        due("hold 6", x.hold(6), 16);
        due("hold 7", x.hold(7), 20);
        x.pin(0, VEIL, 20);
        x.pass(2);
        due("from the third year on", x.hold(1), 0);
        x.pin(0, VEIL, 14);
        due("from the third year on, one fewer", x.hold(1), 1);
        x.pass(1);
        due("gone", x.hold(20), 0);
    }

    private static void holdBounds() {
        TrimmedPeaks x = laid("p0,1;o0,0,20;w0;");
        badBeyond("hold", x::hold, 1, 20);
        due("hold 1", x.hold(1), 0);
        due("hold 19 with 20", x.hold(19), 0);
        due("hold 20 with 20", x.hold(20), 1);
        due("windy in 20", laid("p1,1;o0,0,20;w20;").hold(1), 2);
        due("windy in 20 for 20", laid("p1,1;o0,0,20;w20;").hold(20), 22 + 19 - 20);
        due("goats in 20 for 20", laid("p3,1;o0,0,20;w20;").hold(20), 20 + 38 - 20);
        due("none on", laid("p0,1;p3,1;w20;").hold(20), 0);
    }

    private static void holdSum() {
        TrimmedPeaks x = laid("p0,1;p3,1;p1,1;o0,0,1;o0,4,20;o1,2,3;o1,3,3;o2,1,5;w4;");
        // for 2 years: 5 on the plain one, 6 for the lowest and 5 at goats, 7 on the windy one
        due("hold 2", x.hold(2), 4 + 0 + (6 - 3) + (5 - 3) + (7 - 5));
        x.take(1, FEATHER);
        due("the next is the lowest at goats", x.hold(2), 4 + (6 - 3) + (7 - 5));
        due("pins stay", x.count(4), 29);
        due("each on its own peak, once", laid("p0,1;p0,1;p0,1;o1,0,1;o2,0,1;w0;").hold(1), 2);
        due("each by its own force", laid("p1,1;p2,1;p1,1;o1,0,2;o1,4,2;w2;").hold(1), 0);
    }

    private static void holdHolds() {
        String text = "p0,1;p3,1;o0,0,20;o1,1,20;o1,2,20;w6;w3;w5;";
        int[] needed = {7, 9, 7};
        int[][] places = {{0, VEIL}, {1, BOW}, {1, FEATHER}};
        for (int fewer = -1; fewer < 3; fewer++) {
            TrimmedPeaks x = laid(text);
            for (int i = 0; i < 3; i++) {
                x.pin(places[i][0], places[i][1], needed[i] - (fewer == i ? 1 : 0));
            }
            due("hold 3, fewer at " + fewer, x.hold(3), fewer < 0 ? 0 : 1);
            x.pass(3);
            due("left on, fewer at " + fewer, x.count(2), fewer < 0 ? 3 : 2);
        }
    }

    private static void tellOne() {
        tellIs("one bare", laid("p0,1;"), 0, 0);
        tellIs("one with all", laid("p0,1;o0,0,1;o0,1,1;o0,2,1;o0,3,1;o0,4,1;"), 0, 0);
        tellIs("two alike", laid("p0,1;p0,1;"), NONE, NONE);
    }

    private static void tellFewest() {
        for (int t = 0; t < 5; t++) {
            tellIs("two by " + t, laid("p0,1;p0,1;o1," + t + ",1;"), 1, 1 << t);
        }
        StringBuilder on = new StringBuilder();
        for (int peaks = 2; peaks <= 6; peaks++) {
            on.append("o").append(peaks - 1).append(",").append(peaks - 2).append(",1;");
            TrimmedPeaks x = laid("p0,1;".repeat(peaks) + on);
            tellIs("a trimming for each of " + peaks, x, peaks - 1, (1 << peaks - 1) - 1);
        }
        String byTwoOrThree = "p0,1;p0,1;p0,1;p0,1;o1,3,1;o1,0,1;o2,4,1;o2,1,1;o3,3,1;o3,4,1;o3,2,1;";
        tellIs("two that are higher ahead of three", laid(byTwoOrThree), 2, 24);
    }

    private static void tellLowest() {
        tellIs("bow or brim", laid("p0,1;p0,1;o0,1,1;o0,3,1;"), 1, 2);
        tellIs("brim or lace", laid("p0,1;p0,1;o0,3,1;o1,4,1;"), 1, 8);
        tellIs("what all have tells none", laid("p0,1;p0,1;o0,0,1;o1,0,1;o1,4,1;"), 1, 16);
        TrimmedPeaks x = laid("p0,1;p0,1;p0,1;o0,0,1;o1,2,1;o2,4,1;");
        tellIs("two of three", x, 2, 5);
        x.take(0, VEIL);
        tellIs("two that are left", x, 2, 20);
    }

    private static void tellNone() {
        TrimmedPeaks x = laid("p0,1;p0,1;o0,0,1;w0;");
        tellIs("apart", x, 1, 1);
        x.pass(1);
        tellIs("alike when it is gone", x, NONE, NONE);
        x.put(1, LACE, 1);
        tellIs("apart again", x, 1, 16);
    }

    private static void addNothing() {
        addIs("one peak", laid("p0,1;"), 0, NONE, NONE);
        addIs("two apart", laid("p0,1;p0,1;o0,0,1;"), 0, NONE, NONE);
        addIs("two apart, none in store", laid("p0,1;p0,1;o0,0,1;" + NO_STORE), 0, NONE, NONE);
    }

    private static void addOne() {
        addIs("two alike", laid("p0,1;p0,1;"), 1, 0, NONE);
        addIs("the last two of six",
            laid("p0,1;".repeat(6) + "o1,0,1;o2,1,1;o3,2,1;o4,3,1;o5,3,1;" + NO_STORE + "s4,1;"), 1, 44, NONE);
        addIs("the first that looks as none other",
            laid("p0,1;p0,1;p0,1;p0,1;o2,0,1;o3,1,1;"), 1, 2, NONE);
        TrimmedPeaks x = laid("p0,1;p0,1;p0,1;o0,0,1;");
        addIs("what makes two others alike is not it", x, 1, 11, NONE);
        due("nothing is put on", x.count(2), 1);
        due("nothing is out of the store", x.count(3), 10);
        x.put(1, BOW, 1);
        due("none alike then", x.alike(0), 0);
    }

    private static void addTwoAtMost() {
        TrimmedPeaks three = laid("p0,1;".repeat(3));
        addIs("three alike", three, 2, 0, 11);
        three.put(0, VEIL, 1);
        three.put(1, BOW, 1);
        due("none alike then", three.alike(0), 0);
        String lastThree = "p0,1;".repeat(6) + "o0,0,1;o0,1,1;o1,0,1;o1,2,1;o2,1,1;o2,2,1;";
        addIs("the last three of six", laid(lastThree), 2, 30, 41);
        addIs("the last three of six, the last two kinds", laid(lastThree + NO_STORE + "s3,1;s4,1;"), 2, 33, 44);
        addIs("four alike", laid("p0,1;".repeat(4)), NONE, NONE, NONE);
        addIs("six alike", laid("p0,1;".repeat(6)), NONE, NONE, NONE);
        addIs("two pairs", laid("p0,1;".repeat(4) + "o2,4,1;o3,4,1;"), 2, 0, 20);
        addIs("three pairs", laid("p0,1;".repeat(6) + "o2,4,1;o3,4,1;o4,3,1;o5,3,1;"), NONE, NONE, NONE);
    }

    private static void addAsCanBe() {
        String two = "p0,1;p0,1;";
        addIs("none in store", laid(two + NO_STORE), NONE, NONE, NONE);
        for (int t = 0; t < 5; t++) {
            addIs("one in store, " + t, laid(two + NO_STORE + "s" + t + ",1;"), 1, t, NONE);
            TrimmedPeaks both = laid(two + NO_STORE + "s" + t + ",9;o0," + t + ",1;o1," + t + ",1;");
            addIs("on both, " + t, both, NONE, NONE, NONE);
        }
        TrimmedPeaks x = laid(two + NO_STORE + "o0,2,1;o1,2,1;o0,3,1;");
        addIs("apart", x, 0, NONE, NONE);
        x.take(0, BRIM);
        addIs("of what was taken off", x, 1, 3, NONE);
    }

    private static void addBothOfStore() {
        String pairs = "p0,1;p0,1;p0,1;p0,1;o2,4,1;o3,4,1;" + NO_STORE;
        addIs("one of a kind", laid(pairs + "s0,1;"), NONE, NONE, NONE);
        addIs("two of a kind", laid(pairs + "s0,2;"), 2, 0, 20);
        addIs("three of a kind", laid(pairs + "s0,3;"), 2, 0, 20);
        addIs("one each of two kinds", laid(pairs + "s0,1;s1,1;"), 2, 0, 21);
        addIs("one and two", laid(pairs + "s2,1;s3,2;"), 2, 2, 23);
        String otherPairs = "p0,1;p0,1;p0,1;p0,1;o0,0,1;o0,1,1;o1,0,1;o1,1,1;" + NO_STORE;
        addIs("the kind of the other is the lower one", laid(otherPairs + "s0,1;s4,1;"), 2, 4, 20);
    }

    private static void addFirst() {
        addIs("the lower one, then the other", laid("p0,1;p0,1;p0,1;s0,1;"), 2, 0, 11);
        addIs("the other is the lowest that will do", laid("p0,1;p0,1;p0,1;s1,0;"), 2, 0, 12);
        addIs("both on one peak", laid("p0,1;p0,1;p0,1;p0,1;o2,0,1;o3,1,1;" + NO_STORE + "s0,1;s1,1;"), 2, 0, 1);
        addIs("one ahead of two", laid("p0,1;p0,1;p0,1;o2,0,1;" + NO_STORE + "s0,9;s4,9;"), 1, 4, NONE);
    }

    private static void addWhich() {
        TrimmedPeaks two = laid("p0,1;p0,1;p0,1;");
        badBeyond("add of two", two::add, -1, 1);
        badBeyond("add of none", laid("p0,1;")::add, -1, 1);
        TrimmedPeaks four = laid("p0,1;".repeat(4));
        badBeyond("add where there is none", four::add, -1, 1);
        due("nothing changes", two.count(2) + two.count(7), 0);
    }
}
