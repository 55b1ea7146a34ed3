/** Promises 27 to 31: storms, centuries, what is kept, what is counted; each sentence at its bounds. */
public final class StormsBoundsTest extends Checks {
    private static final String NO_STORE = "s0,0;s1,0;s2,0;s3,0;s4,0;";

    public static void main(String[] args) {
        sentence("27 STORMS: n 0 to 8", StormsBoundsTest::stormYears);
        sentence("27 STORMS: x 0 to 10 of ten", StormsBoundsTest::stormChances);
        sentence("27 STORMS: the WIND is 20", StormsBoundsTest::stormWind);
        sentence("27 STORMS: else as told", StormsBoundsTest::stormElse);
        sentence("27 STORMS: for itself", StormsBoundsTest::stormForItself);
        sentence("27 STORMS: the other TRIMMINGS go by, too", StormsBoundsTest::stormGoats);
        sentence("27 STORMS: in lowest terms", StormsBoundsTest::stormLowestTerms);
        sentence("27 STORMS: not ON", StormsBoundsTest::stormNotOn);
        sentence("27 STORMS: nothing changes", StormsBoundsTest::stormChangesNothing);
        sentence("27 STORMS: beyond the last YEAR, too", StormsBoundsTest::stormLastYear);
        sentence("28 A CENTURY: z 0 to 9999, n 1 to 60", StormsBoundsTest::centuryNumbers);
        sentence("28 A CENTURY: 0 to 2 PUT ON, 3 TAKEN OFF, 4 PINNED", StormsBoundsTest::centuryActs);
        sentence("28 A CENTURY: modulo as many PEAKS as there are", StormsBoundsTest::centuryPeaks);
        sentence("28 A CENTURY: TRIMMING modulo 5", StormsBoundsTest::centuryTrimmings);
        sentence("28 A CENTURY: modulo 9 and 1 PINS", StormsBoundsTest::centuryPins);
        sentence("28 A CENTURY: the k-th DRAW", StormsBoundsTest::centuryDraws);
        sentence("28 A CENTURY: the last z", StormsBoundsTest::centuryLastDraws);
        sentence("28 A CENTURY: the last YEAR of 60", StormsBoundsTest::centuryLastYear);
        sentence("28 A CENTURY: each if it can be", StormsBoundsTest::centuryIfItCanBe);
        sentence("28 A CENTURY: from now on", StormsBoundsTest::centuryFromNowOn);
        sentence("28 A CENTURY: beyond the last YEAR, too", StormsBoundsTest::centuryBeyondLastYear);
        sentence("28 A CENTURY: pairs ALIKE", StormsBoundsTest::centuryAlike);
        sentence("28 A CENTURY: nothing changes by it", StormsBoundsTest::centuryChangesNothing);
        sentence("29 KEPT: 2 at most", StormsBoundsTest::keptAtMost);
        sentence("29 KEPT is all as it stands", StormsBoundsTest::keptAll);
        sentence("30 back: as KEPT last", StormsBoundsTest::backAsKeptLast);
        sentence("30 back: nothing can be UNDONE behind it", StormsBoundsTest::backNothingUndone);
        sentence("30 back: what is SAID and THE TEXT stay", StormsBoundsTest::backSaidAndTextStay);
        sentence("30 back: NO", StormsBoundsTest::backOfNone);
        sentence("31 count: 0 to 9", StormsBoundsTest::countNumbers);
        sentence("31 count: each of them", StormsBoundsTest::countEach);
        sentence("31 count: PEAKS themselves KNOWN by their own GUIDE", StormsBoundsTest::countKnown);
        end("StormsBoundsTest");
    }

    private static void chance(String what, TrimmedPeaks x, int[] ptnx, int above, int below) {
        due(what + ", above", x.storms(ptnx[0], ptnx[1], ptnx[2], ptnx[3], 0), above);
        due(what + ", below", x.storms(ptnx[0], ptnx[1], ptnx[2], ptnx[3], 1), below);
    }

    private static int[] of(int... ptnx) {
        return ptnx;
    }

    private static void stormYears() {
        TrimmedPeaks x = laid("p0,1;o0,0,19;w0;");
        int above = 1;
        int below = 1;
        for (int n = 0; n <= 8; n++) {
            chance("behind " + n, x, of(0, VEIL, n, 1), above, below);
            above *= 9;
            below *= 10;
        }
        badBeyond("n", n -> x.storms(0, VEIL, n, 1, 0), 0, 8);
        badBeyond("n, below", n -> x.storms(0, VEIL, n, 1, 1), 0, 8);
    }

    private static void stormChances() {
        TrimmedPeaks x = laid("p0,1;o0,0,19;w0;");
        int[] above = {1, 9, 4, 7, 3, 1, 2, 3, 1, 1, 0};
        int[] below = {1, 10, 5, 10, 5, 2, 5, 10, 5, 10, 1};
        for (int tenths = 0; tenths <= 10; tenths++) {
            chance(tenths + " of ten", x, of(0, VEIL, 1, tenths), above[tenths], below[tenths]);
            chance(tenths + " of ten, behind none", x, of(0, VEIL, 0, tenths), 1, 1);
        }
        badBeyond("x", tenths -> x.storms(0, VEIL, 1, tenths, 0), 0, 10);
        badBeyond("part", part -> x.storms(0, VEIL, 1, 1, part), 0, 1);
    }

    private static void stormWind() {
        TrimmedPeaks plain = laid("p0,1;o0,0,20;o0,1,19;w0;");
        chance("20 pins in 20", plain, of(0, VEIL, 1, 10), 1, 1);
        chance("19 pins in 20", plain, of(0, BOW, 1, 10), 0, 1);
        chance("20 pins in 20 twice", plain, of(0, VEIL, 2, 10), 0, 1);
        TrimmedPeaks sheltered = laid("p2,1;o0,0,20;o0,1,18;o0,2,17;w0;");
        chance("20 pins in 18, thrice", sheltered, of(0, VEIL, 3, 10), 1, 1);
        chance("20 pins in 18, four times", sheltered, of(0, VEIL, 4, 10), 0, 1);
        chance("18 pins in 18", sheltered, of(0, BOW, 1, 10), 1, 1);
        chance("17 pins in 18", sheltered, of(0, FEATHER, 1, 10), 0, 1);
        TrimmedPeaks windy = laid("p1,1;o0,0,20;w0;");
        chance("20 pins in 22", windy, of(0, VEIL, 1, 10), 0, 1);
        TrimmedPeaks goats = laid("p3,1;o0,0,20;o0,1,20;w0;");
        chance("20 pins in 20 at goats", goats, of(0, BOW, 1, 10), 1, 1);
    }

    private static void stormElse() {
        TrimmedPeaks x = laid("p0,1;o0,0,5;o0,1,6;o0,2,1;o0,3,2;w0;w5;w0;");
        chance("1 pin", x, of(0, FEATHER, 1, 0), 0, 1);
        chance("2 pins", x, of(0, BRIM, 1, 0), 1, 1);
        chance("4 in 5", x, of(0, VEIL, 2, 0), 0, 1);
        chance("5 in 5", x, of(0, BOW, 2, 0), 1, 1);
        chance("5 in 5 by chance", x, of(0, BOW, 2, 5), 1, 4);
        chance("until the last pin", x, of(0, BOW, 4, 0), 1, 1);
        chance("5 in 5 the second time", x, of(0, BOW, 5, 0), 0, 1);
        x.pass(1);
        chance("from now on, 4 in 5", x, of(0, VEIL, 1, 0), 0, 1);
        chance("from now on, 5 in 5", x, of(0, BOW, 1, 0), 1, 1);
        chance("from now on, none", x, of(0, VEIL, 0, 0), 1, 1);
    }

    private static void stormForItself() {
        TrimmedPeaks x = laid("p0,1;o0,0,20;w0;");
        chance("a storm in the first year is no matter", x, of(0, VEIL, 2, 1), 9, 10);
        chance("two years without", x, of(0, VEIL, 3, 1), 81, 100);
        chance("seven years without", x, of(0, VEIL, 8, 1), 4782969, 10000000);
        TrimmedPeaks sheltered = laid("p2,1;o0,0,20;w0;");
        chance("three are no matter", sheltered, of(0, VEIL, 4, 3), 7, 10);
        chance("five years without", sheltered, of(0, VEIL, 8, 3), 16807, 100000);
    }

    /** A storm in the first year takes the veil, and then the goats eat at the bow: 18 pins are left, not 19. */
    private static void stormGoats() {
        chance("18 in 19", laid("p3,1;o0,0,19;o0,1,20;w0;w19;"), of(0, BOW, 2, 5), 1, 4);
        chance("18 in 18", laid("p3,1;o0,0,19;o0,1,20;w0;w18;"), of(0, BOW, 2, 5), 1, 2);
        chance("eaten at twice", laid("p3,1;o0,0,5;w0;"), of(0, VEIL, 2, 5), 1, 4);
        chance("eaten up", laid("p3,1;o0,0,5;w0;"), of(0, VEIL, 3, 0), 0, 1);
        chance("no goats, not eaten up", laid("p0,1;o0,0,5;w0;"), of(0, VEIL, 3, 0), 1, 1);
    }

    private static void stormLowestTerms() {
        TrimmedPeaks x = laid("p0,1;o0,0,19;w0;");
        chance("by 2 alone", x, of(0, VEIL, 8, 2), 65536, 390625);
        chance("by 2 alone, less", x, of(0, VEIL, 8, 4), 6561, 390625);
        chance("by 5 alone", x, of(0, VEIL, 8, 5), 1, 256);
        chance("by 2, to 1", x, of(0, VEIL, 8, 8), 1, 390625);
        chance("by neither, 1", x, of(0, VEIL, 8, 9), 1, 100000000);
        chance("by neither, 9", x, of(0, VEIL, 8, 1), 43046721, 100000000);
        chance("by both, to 1 of 1", x, of(0, VEIL, 8, 0), 1, 1);
        chance("none of 1", x, of(0, VEIL, 8, 10), 0, 1);
        chance("5 of 10 by ten", laid("p0,1;o0,0,20;w0;"), of(0, VEIL, 2, 5), 1, 2);
    }

    private static void stormNotOn() {
        TrimmedPeaks x = laid("p0,1;o0,0,1;w0;");
        chance("not on", x, of(0, BOW, 0, 5), 0, 1);
        chance("not on, behind 8", x, of(0, BOW, 8, 5), 0, 1);
        chance("on", x, of(0, VEIL, 0, 5), 1, 1);
        x.pass(1);
        chance("gone", x, of(0, VEIL, 0, 5), 0, 1);
    }

    private static void stormChangesNothing() {
        TrimmedPeaks x = laid("p3,1;o0,0,20;w0;");
        x.storms(0, VEIL, 8, 5, 0);
        due("year", x.count(1), 0);
        due("pins", x.pins(0, VEIL), 20);
        due("guide", x.peak(0, 3), 1);
        due("acts", x.count(7), 0);
    }

    private static void stormLastYear() {
        TrimmedPeaks x = inYear(laid("p0,1;w0;w3;"), 999);
        x.put(0, VEIL, 3);
        chance("3 in the wind of 999", x, of(0, VEIL, 1, 0), 1, 1);
        chance("2 in no wind", x, of(0, VEIL, 2, 0), 1, 1);
        chance("2 in no wind by chance", x, of(0, VEIL, 2, 5), 1, 4);
        chance("1 in the wind of 999 again", x, of(0, VEIL, 3, 0), 0, 1);
        due("still 999", x.count(1), 999);
    }

    private static void centuryNumbers() {
        TrimmedPeaks x = laid("p0,1;p0,1;w0;");
        due("z 0", x.century(0, 1, 1), 1);
        due("z 9999", x.century(9999, 1, 1), 1);
        due("n 60", x.century(0, 60, 1) >= 0 ? 1 : 0, 1);
        badBeyond("z", z -> x.century(z, 1, 0), 0, 9999);
        badBeyond("n", n -> x.century(0, n, 0), 1, 60);
        badBeyond("what", what -> x.century(0, 1, what), 0, 1);
    }

    /** Of each z the first draw, modulo 8 as many as its place here: 56728, 58977, 22874, .. of two peaks. */
    private static void centuryActs() {
        int[] draws = {5, 7, 20, 1, 15, 2, 3, 4};
        int[] peaks = {1, 0, 1, 0, 1, 1, 1, 0};
        int[] trimmings = {BOW, BOW, FEATHER, BOW, BRIM, VEIL, FEATHER, BRIM};
        for (int act = 0; act < 8; act++) {
            String on = "p0,1;p0,1;o" + peaks[act] + "," + trimmings[act];
            due("not on, " + act, laid("p0,1;p0,1;w0;").century(draws[act], 1, 0), act <= 2 ? 1 : 0);
            due("on with 20, " + act, laid(on + ",20;w0;").century(draws[act], 1, 0), act == 3 ? 0 : 1);
            due("on with 1, " + act, laid(on + ",1;w0;").century(draws[act], 1, 0), act == 4 ? 1 : 0);
        }
    }

    /** z 5: the draw is 56728, by 8 it is 7091: a bow on peak 7091 modulo the peaks. */
    private static void centuryPeaks() {
        int[] targets = {0, 1, 2, 3, 1, 5};
        for (int many = 1; many <= 6; many++) {
            for (int free = 0; free < many; free++) {
                StringBuilder text = new StringBuilder("p0,1;".repeat(many));
                for (int p = 0; p < many; p++) {
                    text.append(p == free ? "" : "o" + p + ",1,20;");
                }
                TrimmedPeaks x = laid(text + "w0;");
                int due = free == targets[many - 1] ? many : many - 1;
                due("free is " + free + " of " + many, x.century(5, 1, 0), due);
            }
        }
    }

    private static void centuryTrimmings() {
        int[] draws = {17, 5, 10, 6, 49};
        for (int t = 0; t < 5; t++) {
            due("in store alone, " + t, laid("p0,1;w0;" + NO_STORE + "s" + t + ",1;").century(draws[t], 1, 0), 1);
            due("not in store alone, " + t, laid("p0,1;w0;s" + t + ",0;").century(draws[t], 1, 0), 0);
        }
    }

    /** The draws 1, 42056, 56728, 24609, 53177, 21488, 35777, 58977, 54873 put one on with 1, 2, .. 9 pins. */
    private static void centuryPins() {
        int[] draws = {0, 42, 5, 185, 55, 163, 219, 7, 395};
        for (int pins = 1; pins <= 9; pins++) {
            int z = draws[pins - 1];
            due(pins + " pins in as much", laid("p0,1;p0,1;w" + pins + ";").century(z, 1, 0), pins > 1 ? 1 : 0);
            due(pins + " pins in more", laid("p0,1;p0,1;w" + (pins + 1) + ";").century(z, 1, 0), 0);
        }
        // z 60: the draw is 8844: the brim of peak 1 is pinned with 9
        due("pinned with 9 in 9", laid("p0,1;p0,1;o1,3,1;w9;").century(60, 1, 0), 1);
        due("pinned with 9 in 10", laid("p0,1;p0,1;o1,3,20;w10;").century(60, 1, 0), 0);
    }

    /** z 0: the draws are 1, 41487, 10299, 37479, 57506: the fifth puts a brim on peak 0 with 5 pins. */
    private static void centuryDraws() {
        TrimmedPeaks x = laid("p0,1;p0,1;w0;");
        for (int n = 1; n <= 4; n++) {
            due("until the draw " + n, x.century(0, n, 0), 0);
        }
        due("the fifth", x.century(0, 5, 0), 1);
        due("the fifth in its wind", laid("p0,1;p0,1;w0;w0;w0;w0;w5;").century(0, 5, 0), 1);
        due("the fifth in more", laid("p0,1;p0,1;w0;w0;w0;w0;w6;").century(0, 5, 0), 0);
    }

    /** z 9999: the draws are 51303, 32612, 6768: the third puts a veil on peak 0 with 5 pins. */
    private static void centuryLastDraws() {
        due("two", laid("p0,1;p0,1;w5;").century(9999, 2, 0), 0);
        due("three", laid("p0,1;p0,1;w5;").century(9999, 3, 0), 1);
        due("three, one is on", laid("p0,1;p0,1;w0;o0,0,20;").century(9999, 3, 0), 1);
        due("three in 6", laid("p0,1;p0,1;w6;").century(9999, 3, 0), 0);
        // z 9998: the draw is 8482: a feather on peak 0 with 8 pins
        due("the last but one", laid("p0,1;p0,1;w8;").century(9998, 1, 0), 1);
        due("the last but one in 9", laid("p0,1;p0,1;w9;").century(9998, 1, 0), 0);
    }

    /** z 606: of all draws only that ahead of the 60th year, 18369, puts a feather on, with 9 pins. */
    private static void centuryLastYear() {
        TrimmedPeaks x = laid("p0,1;p0,1;w9;" + NO_STORE + "s2,9;");
        due("59 years", x.century(606, 59, 0), 0);
        due("60 years", x.century(606, 60, 0), 1);
        due("60 years, apart", x.century(606, 60, 1), 0);
        due("60 years in 10", laid("p0,1;p0,1;w10;" + NO_STORE + "s2,9;").century(606, 60, 0), 0);
    }

    /** z 342: the draws are 24099 and 53560: the bow of peak 0 taken off, one put on peak 1 with 6 pins. */
    private static void centuryIfItCanBe() {
        due("out of the store again", laid("p0,1;p0,1;s1,0;o0,1,1;w0;").century(342, 2, 0), 1);
        due("not on, none in store", laid("p0,1;p0,1;s1,0;w0;").century(342, 2, 0), 0);
        due("not on, one in store", laid("p0,1;p0,1;s1,1;w0;").century(342, 2, 0), 1);
        due("on is not put on again", laid("p0,1;p0,1;o1,1,20;w0;w7;").century(342, 2, 0), 1);
        due("not on is not pinned", laid("p0,1;p0,1;w0;").century(15, 1, 0), 0);
    }

    /** z 10: the draw is 3008: a feather on peak 0 with 6 pins. */
    private static void centuryFromNowOn() {
        TrimmedPeaks x = laid("p0,1;p0,1;w7;w6;");
        due("in year 0", x.century(10, 1, 0), 0);
        x.pass(1);
        due("in year 1", x.century(10, 1, 0), 1);
        x.put(0, FEATHER, 1);
        due("as it stands now", x.century(10, 1, 0), 0);
        due("alike as it stands now", x.century(10, 1, 1), 1);
        x.undo();
        due("undone", x.century(10, 1, 0), 1);
    }

    /** z 10: behind the feather with 6 pins the draw 8125 does nothing, and 6089 puts a veil on peak 1 with 3. */
    private static void centuryBeyondLastYear() {
        TrimmedPeaks x = inYear(laid("p0,1;p0,1;w3;w4;w2;w6;"), 999);
        due("6 pins in the wind of 999", x.century(10, 1, 0), 1);
        due("5 in that of the next", x.century(10, 2, 0), 1);
        due("of 4 and 3 one in 4", x.century(10, 3, 0), 1);
        due("apart then", x.century(10, 3, 1), 0);
        due("60 years", x.century(10, 60, 1) >= 0 ? 1 : 0, 1);
        due("still 999", x.count(1), 999);
        due("nothing on", x.count(2), 0);
    }

    private static void centuryAlike() {
        due("two alike", laid("p0,1;p0,1;w20;").century(10, 1, 1), 1);
        due("two apart", laid("p0,1;p0,1;w0;").century(10, 1, 1), 0);
        due("six alike", laid("p0,1;".repeat(6) + "w20;").century(0, 60, 1), 15);
        due("one apart of six", laid("p0,1;".repeat(6) + "w0;").century(10, 1, 1), 10);
        due("one alone", laid("p0,1;w0;").century(10, 1, 1), 0);
    }

    private static void centuryChangesNothing() {
        TrimmedPeaks x = laid("p0,1;p0,1;s2,1;o0,0,20;w0;");
        x.take(0, VEIL);
        due("century", x.century(10, 1, 0), 1);
        x.century(606, 60, 1);
        due("year", x.count(1), 0);
        due("trimmings on", x.count(2), 0);
        due("in store", x.count(3), 3 + 2 + 1 + 2 + 2);
        due("guide", x.peak(0, 3), 1);
        due("acts", x.count(7), 1);
        due("again", x.century(10, 1, 0), 1);
        due("undo", x.undo(), 0);
        due("pins", x.pins(0, VEIL), 20);
    }

    private static void keptAtMost() {
        TrimmedPeaks x = new TrimmedPeaks();
        due("none", x.count(8), 0);
        due("first", x.keep(), 1);
        x.pass(1);
        due("second", x.keep(), 2);
        x.pass(1);
        due("third", x.keep(), FULL);
        due("two", x.count(8), 2);
        due("back", x.back(), 1);
        due("as the second was, not the third", x.count(1), 1);
        due("second again", x.keep(), 2);
        due("third again", x.keep(), FULL);
        due("back", x.back(), 1);
        due("back", x.back(), 0);
        due("as the first was", x.count(1), 0);
        due("first again", x.keep(), 1);
    }

    private static void keptAll() {
        TrimmedPeaks x = laid("p0,1;p3,1;o0,0,9;o1,0,9;o1,4,1;w0;w4;");
        x.put(0, BOW, 5);
        x.pass(1);
        x.pin(0, BOW, 12);
        due("keep", x.keep(), 1);
        due("keep is no act", x.count(7), 3);
        x.take(0, BOW);
        x.pass(20);
        due("back", x.back(), 0);
        due("year", x.count(1), 1);
        due("wind", x.wind(0), 4);
        pinsAre("pins", x, 0, 8, 12, 0, 0, 0);
        pinsAre("pins", x, 1, 7, 0, 0, 0, 0);
        due("store", x.store(BOW), 1);
        due("guide of 0", x.peak(0, 3), 3);
        due("guide of 1", x.peak(1, 3), 17);
        due("peaks", x.count(0), 2);
    }

    private static void backAsKeptLast() {
        TrimmedPeaks x = laid("p0,1;o0,0,20;");
        x.keep();
        x.pin(0, VEIL, 1);
        x.keep();
        x.pin(0, VEIL, 2);
        due("the last", x.back(), 1);
        due("pins of the last", x.pins(0, VEIL), 1);
        due("kept no more", x.count(8), 1);
        due("the first", x.back(), 0);
        due("pins of the first", x.pins(0, VEIL), 20);
        due("no more", x.back(), NO);
    }

    private static void backNothingUndone() {
        TrimmedPeaks x = laid("p0,1;o0,0,20;");
        x.pin(0, VEIL, 1);
        x.keep();
        x.pin(0, VEIL, 2);
        x.pin(0, VEIL, 3);
        due("undo ahead of it", x.undo(), 2);
        due("back", x.back(), 0);
        due("can be undone", x.count(7), 0);
        due("undo", x.undo(), NO);
        due("pins", x.pins(0, VEIL), 1);
        x.pin(0, VEIL, 4);
        due("what is done behind it", x.undo(), 0);
        due("pins undone", x.pins(0, VEIL), 1);
        due("and no more", x.undo(), NO);
    }

    private static void backSaidAndTextStay() {
        TrimmedPeaks x = laid("p0,1;p0,1;o0,0,9;");
        x.say(VEIL, 1);
        x.keep();
        x.say(BOW, 0);
        for (char letter : "p0,7;".toCharArray()) {
            x.write(letter);
        }
        due("back", x.back(), 0);
        due("said", x.count(6), 2);
        due("which", x.which(), 1);
        due("letters", x.count(9), 22);
        x.keep();
        x.forget();
        x.back();
        due("forgotten", x.count(6), 0);
        due("lay", x.lay(), 3);
        due("the third", x.peak(2, 1), 7);
        x.keep();
        x.wipe();
        x.back();
        due("wiped", x.count(9), 0);
    }

    private static void backOfNone() {
        TrimmedPeaks x = laid("p0,1;o0,0,20;");
        due("at first", x.back(), NO);
        x.pin(0, VEIL, 3);
        due("behind an act", x.back(), NO);
        due("the act stays", x.pins(0, VEIL), 3);
        due("and can be undone", x.undo(), 0);
        x.keep();
        x.back();
        due("behind the last one", x.back(), NO);
        x.keep();
        x.lay();
        due("laid anew", x.back(), NO);
    }

    private static void countNumbers() {
        TrimmedPeaks x = new TrimmedPeaks();
        int[] counts = {5, 0, 7, 12, 37, 4, 0, 0, 0, 0};
        for (int what = 0; what <= 9; what++) {
            due("count " + what, x.count(what), counts[what]);
        }
        badBeyond("count", x::count, 0, 9);
    }

    private static void countEach() {
        TrimmedPeaks x = laid("p0,1;".repeat(6) + "o0,0,20;o5,4,1;o5,0,2;s0,0;s1,9;w0;");
        due("peaks", x.count(0), 6);
        due("on", x.count(2), 3);
        due("in store", x.count(3), 0 + 9 + 2 + 2 + 2);
        due("pins", x.count(4), 23);
        due("letters", x.count(9), 65);
        x.pass(1);
        due("year", x.count(1), 1);
        due("on behind it", x.count(2), 2);
        due("in store as before", x.count(3), 15);
        due("pins behind it", x.count(4), 20);
        x.take(0, VEIL);
        due("on, one taken off", x.count(2), 1);
        due("in store, one taken off", x.count(3), 16);
        due("pins, one taken off", x.count(4), 1);
        x.put(0, BOW, 7);
        due("on, one put on", x.count(2), 2);
        due("in store, one put on", x.count(3), 15);
        due("pins, one put on", x.count(4), 8);
        x.say(VEIL, 1);
        due("said", x.count(6), 1);
        due("can be undone", x.count(7), 3);
        x.keep();
        due("kept", x.count(8), 1);
        x.write('w');
        due("letters, one more", x.count(9), 66);
    }

    private static void countKnown() {
        TrimmedPeaks x = laid("p0,1;p0,1;p0,1;o1,0,2;o2,0,9;w0;");
        due("the first of two alike, and the bare one", x.count(5), 2);
        x.put(2, LACE, 9);
        due("one that looks other than its guide", x.count(5), 2);
        x.pass(1);
        due("each by its new guide", x.count(5), 3);
        x.pass(1);
        due("one gone bare", x.count(5), 2);
        due("all bare: the first alone", laid("p0,1;".repeat(6)).count(5), 1);
        TrimmedPeaks moved = laid("p0,1;p0,1;o0,0,9;o1,1,9;");
        due("both", moved.count(5), 2);
        moved.take(0, VEIL);
        moved.put(1, VEIL, 1);
        moved.take(1, BOW);
        due("known, but as the other", moved.count(5), 0);
    }
}
