/** Promises 6 to 14: what a peak is like, trimmings put on, taken off, pinned, years, undone; at their bounds. */
public final class YearsBoundsTest extends Checks {
    public static void main(String[] args) {
        sentence("6 PEAKS: such as there are", YearsBoundsTest::peaksThatThereAre);
        sentence("6 what is 0 to 5", YearsBoundsTest::whatOfPeak);
        sentence("6 LOOKS: bits 0 to 4", YearsBoundsTest::looks);
        sentence("6 FORCE: 2 more, 2 less, 0 at least", YearsBoundsTest::force);
        sentence("6 FORCE of this YEAR", YearsBoundsTest::forceOfThisYear);
        sentence("6 LIGHT: a PEAK beside it that is HIGHER", YearsBoundsTest::lightByHigher);
        sentence("6 LIGHT: and has a BRIM", YearsBoundsTest::lightByBrims);
        sentence("6 LIGHT: 3 for each PEAK beside it", YearsBoundsTest::lightByEach);
        sentence("7 TRIMMINGS 0 to 4, 0 PINS: it is not ON", YearsBoundsTest::pinsOfTrimmings);
        sentence("8 how many are in the STORE", YearsBoundsTest::inStore);
        sentence("9 the n-th YEAR from now on, 0 to 99", YearsBoundsTest::windFromNowOn);
        sentence("10 PUT ON with 1 to 20 PINS", YearsBoundsTest::putPins);
        sentence("10 NO: it is ON", YearsBoundsTest::putWhereOn);
        sentence("10 NO: there is none in the STORE", YearsBoundsTest::putLastOfStore);
        sentence("11 TAKEN OFF: in the STORE again", YearsBoundsTest::takenOff);
        sentence("11 NO: it is not ON", YearsBoundsTest::takeNotOn);
        sentence("12 PINNED: N PINS from then on", YearsBoundsTest::pinned);
        sentence("12 NO: it is not ON", YearsBoundsTest::pinNotOn);
        sentence("10 to 12 the GUIDE is not changed", YearsBoundsTest::guideNotChanged);
        sentence("13 GUIDES are made anew ahead of the latest YEAR", YearsBoundsTest::guidesAnew);
        sentence("13 fewer PINS than FORCE is gone", YearsBoundsTest::fewerThanForce);
        sentence("13 1 PIN less, and is gone with none", YearsBoundsTest::goneWithNone);
        sentence("13 GOATS: 1 PIN less again, gone with none", YearsBoundsTest::goatsGoneWithNone);
        sentence("13 GOATS: the lowest that is ON then", YearsBoundsTest::goatsLowest);
        sentence("13 GOATS alone", YearsBoundsTest::goatsAlone);
        sentence("13 what is gone is not in the STORE", YearsBoundsTest::goneNotInStore);
        sentence("13 n YEARS, each with its WIND", YearsBoundsTest::eachYearItsWind);
        sentence("13 n YEARS (1 to 20)", YearsBoundsTest::yearsAtOneTime);
        sentence("13 YEAR 999 at most", YearsBoundsTest::lastYear);
        sentence("14 each of these is UNDONE", YearsBoundsTest::undoEach);
        sentence("14 YEARS that go by at one time are one", YearsBoundsTest::undoYears);
        sentence("14 the last 8 can be", YearsBoundsTest::undoLastEight);
        sentence("14 what was UNDONE makes room", YearsBoundsTest::undoAndGoOn);
        sentence("14 NO: what is refused can't be UNDONE", YearsBoundsTest::undoNothing);
        sentence("14 what is SAID, KEPT, THE TEXT is not UNDONE", YearsBoundsTest::undoLeaves);
        end("YearsBoundsTest");
    }

    private static void peaksThatThereAre() {
        for (int many = 1; many <= 6; many++) {
            TrimmedPeaks x = laid("p2,5;".repeat(many));
            for (int p = 0; p < many; p++) {
                due("kind of " + p + " of " + many, x.peak(p, 0), 2);
                due("pins of " + p + " of " + many, x.pins(p, VEIL), 0);
                due("known " + p + " of " + many, x.known(p), 0);
                due("behind " + p + " of " + many, x.behind(0, p), 0);
                due("match " + p + " of " + many, x.match(p), p);
                due("put on " + p + " of " + many, x.put(p, p % 5, 1), 1 << p % 5);
                due("goes " + p + " of " + many, x.goes(p, p % 5), 1);
                due("storms " + p + " of " + many, x.storms(p, p % 5, 0, 0, 0), 1);
                due("pin " + p + " of " + many, x.pin(p, p % 5, 2), 1);
                due("take " + p + " of " + many, x.take(p, p % 5), 0);
            }
            badBeyond("peak", p -> x.peak(p, 0), 0, many - 1);
            badBeyond("pins", p -> x.pins(p, VEIL), 0, many - 1);
            badBeyond("put", p -> x.put(p, VEIL, 1), 0, many - 1);
            badBeyond("take", p -> x.take(p, VEIL), 0, many - 1);
            badBeyond("pin", p -> x.pin(p, VEIL, 1), 0, many - 1);
            badBeyond("known", x::known, 0, many - 1);
            badBeyond("behind", p -> x.behind(0, p), 0, many - 1);
            badBeyond("goes", p -> x.goes(p, VEIL), 0, many - 1);
            badBeyond("match", x::match, -1, many - 1);
            badBeyond("storms", p -> x.storms(p, VEIL, 0, 0, 0), 0, many - 1);
        }
    }

    private static void whatOfPeak() {
        TrimmedPeaks x = laid("p1,7;p0,9;o0,4,9;o1,3,9;w4;");
        x.put(0, VEIL, 1);
        int[] due = {1, 7, 17, 16, 6, 9};
        for (int what = 0; what < due.length; what++) {
            due("what " + what, x.peak(0, what), due[what]);
        }
        badBeyond("what", what -> x.peak(0, what), 0, 5);
    }

    private static void looks() {
        TrimmedPeaks x = laid("p0,1;p0,1;s0,1;");
        int bits = 0;
        for (int t = 0; t < 5; t++) {
            bits |= 1 << t;
            due("with " + t, x.put(0, t, 1), bits);
        }
        due("all on", x.peak(0, 2), 31);
        due("none on the other", x.peak(1, 2), 0);
        for (int t = 0; t < 5; t++) {
            bits &= ~(1 << t);
            due("without " + t, x.take(0, t), bits);
        }
        due("none on", x.peak(0, 2), 0);
    }

    private static void force() {
        for (int wind = 0; wind <= 20; wind++) {
            TrimmedPeaks x = laid("p0,1;p1,1;p2,1;p3,1;w" + wind + ";");
            due("plain in " + wind, x.peak(0, 4), wind);
            due("windy in " + wind, x.peak(1, 4), wind + 2);
            due("sheltered in " + wind, x.peak(2, 4), wind < 2 ? 0 : wind - 2);
            due("goats in " + wind, x.peak(3, 4), wind);
        }
    }

    private static void forceOfThisYear() {
        TrimmedPeaks x = laid("p1,1;w0;w20;w5;");
        int[] forces = {2, 22, 7, 2, 22};
        for (int year = 0; year < forces.length; year++) {
            due("force of the year " + year, x.peak(0, 4), forces[year]);
            x.pass(1);
        }
        x.undo();
        due("force of the year that is again", x.peak(0, 4), 22);
    }

    private static void lightByHigher() {
        for (int height = 1; height <= 20; height++) {
            TrimmedPeaks x = laid("p0,10;p0," + height + ";o0,3,1;o1,3,1;");
            due("10 high beside " + height, x.peak(0, 5), height > 10 ? 9 : 12);
            due(height + " high beside 10", x.peak(1, 5), height < 10 ? 9 : 12);
        }
    }

    private static void lightByBrims() {
        TrimmedPeaks x = laid("p0,1;p0,2;o1,0,1;o1,1,1;o1,2,1;o1,4,1;o0,3,1;");
        due("no brim", x.peak(0, 5), 12);
        x.put(1, BRIM, 2);
        due("a brim put on", x.peak(0, 5), 9);
        due("lower beside", x.peak(1, 5), 12);
        x.take(1, BRIM);
        due("a brim taken off", x.peak(0, 5), 12);
        x.undo();
        due("and undone", x.peak(0, 5), 9);
        x.pass(1);
        due("a brim blown off", x.peak(0, 5), 12);
    }

    private static void lightByEach() {
        TrimmedPeaks x = laid("p0,2;p0,9;p0,1;p0,9;p0,5;p0,20;o1,3,9;o3,3,9;o5,3,9;");
        int[] lights = {9, 12, 6, 12, 6, 12};
        for (int p = 0; p < 6; p++) {
            due("light of " + p, x.peak(p, 5), lights[p]);
        }
        TrimmedPeaks ends = laid("p0,1;p0,1;p0,20;o2,3,9;");
        due("the last is not beside the first", ends.peak(0, 5), 12);
        due("one is beside it", ends.peak(1, 5), 9);
        TrimmedPeaks first = laid("p0,20;p0,1;p0,1;o0,3,9;");
        due("the first is not beside the last", first.peak(2, 5), 12);
        due("the first is beside the second", first.peak(1, 5), 9);
        due("one alone", laid("p0,1;o0,3,9;").peak(0, 5), 12);
    }

    private static void pinsOfTrimmings() {
        TrimmedPeaks x = laid("p0,1;p0,1;o0,0,1;o0,4,20;o1,1,3;");
        pinsAre("told", x, 0, 1, 0, 0, 0, 20);
        pinsAre("told", x, 1, 0, 3, 0, 0, 0);
        badBeyond("pins", t -> x.pins(0, t), 0, 4);
        badBeyond("put", t -> x.put(1, t, 1), 0, 4);
        badBeyond("take", t -> x.take(0, t), 0, 4);
        badBeyond("pin", t -> x.pin(0, t, 1), 0, 4);
        badBeyond("goes", t -> x.goes(0, t), 0, 4);
        badBeyond("say", t -> x.say(t, 0), 0, 4);
        badBeyond("storms", t -> x.storms(0, t, 0, 0, 0), 0, 4);
        due("trimmings on", x.count(2), 3);
    }

    private static void inStore() {
        TrimmedPeaks x = laid("p0,1;s0,0;s1,9;s2,1;o0,1,1;");
        int[] stores = {0, 9, 1, 2, 2};
        for (int t = 0; t < 5; t++) {
            due("store of " + t, x.store(t), stores[t]);
        }
        badBeyond("store", x::store, 0, 4);
        x.take(0, BOW);
        due("ten with the one taken off", x.store(BOW), 10);
    }

    private static void windFromNowOn() {
        TrimmedPeaks x = laid("p0,1;w0;w1;w2;w3;w4;w5;w6;");
        due("this one", x.wind(0), 0);
        due("the next one", x.wind(1), 1);
        due("the 98th", x.wind(98), 0);
        due("the 99th", x.wind(99), 1);
        badBeyond("wind", x::wind, 0, 99);
        inYear(x, 999);
        due("this one, year 999", x.wind(0), 999 % 7);
        due("the next to 999", x.wind(1), 1000 % 7);
        due("the 99th from 999", x.wind(99), 1098 % 7);
    }

    private static void putPins() {
        TrimmedPeaks x = laid("p0,1;p0,1;s0,9;");
        due("with 1", x.put(0, VEIL, 1), 1);
        due("with 20", x.put(1, VEIL, 20), 1);
        badBeyond("put", n -> x.put(0, BOW, n), 1, 20);
        allBad("put", n -> x.put(0, BOW, n), -1, 99);
        pinsAre("put", x, 0, 1, 0, 0, 0, 0);
        pinsAre("put", x, 1, 20, 0, 0, 0, 0);
        due("out of the store", x.store(VEIL), 7);
        due("nothing of what was bad", x.store(BOW), 2);
        due("acts", x.count(7), 2);
    }

    private static void putWhereOn() {
        TrimmedPeaks x = laid("p0,1;o0,0,1;w0;");
        due("told to be on", x.put(0, VEIL, 9), NO);
        due("pins as they were", x.pins(0, VEIL), 1);
        due("store as it was", x.store(VEIL), 2);
        due("another", x.put(0, BOW, 1), 3);
        due("the same again", x.put(0, BOW, 1), NO);
        x.pass(1);
        due("when it is gone", x.put(0, VEIL, 9), 1);
        x.take(0, VEIL);
        due("when it was taken off", x.put(0, VEIL, 9), 1);
        due("one in store of two", x.store(VEIL), 1);
    }

    private static void putLastOfStore() {
        TrimmedPeaks x = laid("p0,1;p0,1;p0,1;s0,1;s1,0;s2,2;o2,1,1;");
        due("the last one", x.put(0, VEIL, 1), 1);
        due("none is left", x.store(VEIL), 0);
        due("of none", x.put(1, VEIL, 1), NO);
        due("of none told", x.put(0, BOW, 1), NO);
        x.take(2, BOW);
        due("of one taken off", x.put(0, BOW, 1), 3);
        due("the first of two", x.put(0, FEATHER, 1), 7);
        due("the second of two", x.put(1, FEATHER, 1), 4);
        due("the third of two", x.put(2, FEATHER, 1), NO);
        due("store", x.store(FEATHER), 0);
        due("looks", x.peak(2, 2), 0);
        due("acts", x.count(7), 5);
    }

    private static void takenOff() {
        TrimmedPeaks x = laid("p0,1;s0,0;s4,9;o0,0,1;o0,4,20;");
        due("take the veil", x.take(0, VEIL), 16);
        due("one veil in store", x.store(VEIL), 1);
        due("take the lace", x.take(0, LACE), 0);
        due("ten in store", x.store(LACE), 10);
        pinsAre("taken", x, 0, 0, 0, 0, 0, 0);
        due("in store in all", x.count(3), 1 + 2 + 2 + 2 + 10);
    }

    private static void takeNotOn() {
        TrimmedPeaks x = laid("p0,1;p0,1;o0,0,1;w0;");
        due("never on", x.take(0, BOW), NO);
        due("on the other", x.take(1, VEIL), NO);
        due("on", x.take(0, VEIL), 0);
        due("taken off", x.take(0, VEIL), NO);
        x.undo();
        x.pass(1);
        due("gone", x.take(0, VEIL), NO);
        due("store", x.store(VEIL), 2);
    }

    private static void pinned() {
        TrimmedPeaks x = laid("p0,1;o0,0,5;o0,1,6;w0;");
        due("with 1", x.pin(0, VEIL, 1), 5);
        due("one pin", x.pins(0, VEIL), 1);
        due("with 20", x.pin(0, VEIL, 20), 1);
        due("with as many", x.pin(0, VEIL, 20), 20);
        badBeyond("pin", n -> x.pin(0, VEIL, n), 1, 20);
        allBad("pin", n -> x.pin(0, VEIL, n), -1, 99);
        pinsAre("pinned", x, 0, 20, 6, 0, 0, 0);
        due("store", x.store(VEIL), 2);
        due("acts", x.count(7), 3);
        x.pass(1);
        due("from then on", x.pins(0, VEIL), 19);
    }

    private static void pinNotOn() {
        TrimmedPeaks x = laid("p0,1;p0,1;o0,0,1;w0;");
        due("never on", x.pin(0, BOW, 5), NO);
        due("on the other", x.pin(1, VEIL, 5), NO);
        due("on", x.pin(0, VEIL, 1), 1);
        x.pass(1);
        due("gone", x.pin(0, VEIL, 5), NO);
        due("none on", x.count(2), 0);
    }

    private static void guideNotChanged() {
        TrimmedPeaks x = laid("p0,1;p0,1;o0,0,9;o0,1,9;w0;");
        x.put(0, LACE, 3);
        due("put on", x.peak(0, 3), 3);
        x.take(0, VEIL);
        due("taken off", x.peak(0, 3), 3);
        x.pin(0, BOW, 1);
        due("pinned", x.peak(0, 3), 3);
        x.pass(1);
        due("ahead of the year", x.peak(0, 3), 18);
        due("behind the year", x.peak(0, 2), 16);
        x.put(0, BOW, 1);
        due("put on again", x.peak(0, 3), 18);
    }

    private static void guidesAnew() {
        TrimmedPeaks x = laid("p0,1;o0,0,1;o0,1,2;o0,2,3;w0;");
        due("laid", x.peak(0, 3), 7);
        x.pass(1);
        due("ahead of the first year", x.peak(0, 3), 7);
        x.pass(1);
        due("ahead of the second", x.peak(0, 3), 6);
        x.pass(2);
        due("ahead of the fourth", x.peak(0, 3), 0);
        x.undo();
        due("of the second again", x.peak(0, 3), 6);
        x.pass(1);
        due("ahead of the third", x.peak(0, 3), 4);
        TrimmedPeaks two = laid("p0,1;o0,0,1;o0,1,2;o0,2,3;w0;");
        two.pass(2);
        due("two years at one time", two.peak(0, 3), 6);
        TrimmedPeaks gust = laid("p0,1;o0,0,9;w20;");
        gust.pass(1);
        due("blown off in it", gust.peak(0, 3), 1);
    }

    /** At goats a veil with pins enough is there for them to eat at. */
    private static void fewerThanForce() {
        int[] forces = {5, 7, 3, 5};
        for (int kind = 0; kind <= 3; kind++) {
            int force = forces[kind];
            TrimmedPeaks x = laid("p" + kind + ",1;o0,0,20;o0,1," + (force - 1) + ";o0,2," + force + ";o0,3,"
                + (force + 1) + ";o0,4,1;w5;");
            due("force", x.peak(0, 4), force);
            x.pass(1);
            pinsAre("kind " + kind, x, 0, kind == 3 ? 18 : 19, 0, force - 1, force, 0);
        }
        TrimmedPeaks strong = laid("p0,1;p1,1;p2,1;o0,0,20;o0,1,19;o1,0,20;o2,0,18;o2,1,17;w20;");
        strong.pass(1);
        pinsAre("plain in 20", strong, 0, 19, 0);
        pinsAre("windy in 20", strong, 1, 0);
        pinsAre("sheltered in 20", strong, 2, 17, 0);
    }

    private static void goneWithNone() {
        for (int wind = 0; wind <= 2; wind++) {
            TrimmedPeaks x = laid("p0,1;p2,1;o0,0,1;o0,1,2;o0,2,3;o1,0,1;o1,1,2;o1,2,3;w" + wind + ";");
            x.pass(1);
            pinsAre("plain in " + wind, x, 0, 0, 1, 2, 0, 0);
            pinsAre("sheltered in " + wind, x, 1, 0, 1, 2, 0, 0);
            due("looks", x.peak(0, 2), 6);
        }
    }

    private static void goatsGoneWithNone() {
        int[] left = {0, 0, 1, 2};
        for (int pins = 1; pins <= 4; pins++) {
            TrimmedPeaks x = laid("p3,1;o0,2," + pins + ";w0;");
            x.pass(1);
            due("of " + pins + " pins", x.pins(0, FEATHER), left[pins - 1]);
            due("looks with " + pins, x.peak(0, 2), left[pins - 1] > 0 ? 4 : 0);
        }
        TrimmedPeaks eaten = laid("p3,1;o0,0,2;o0,1,9;w0;");
        eaten.pass(1);
        pinsAre("the next one is left when the lowest was eaten up", eaten, 0, 0, 8);
    }

    private static void goatsLowest() {
        TrimmedPeaks blown = laid("p3,1;o0,0,4;o0,1,9;o0,2,9;w5;");
        blown.pass(1);
        pinsAre("the lowest is blown off first", blown, 0, 0, 7, 8);
        TrimmedPeaks worn = laid("p3,1;o0,0,1;o0,1,9;w0;");
        worn.pass(1);
        pinsAre("the lowest is gone with its last pin first", worn, 0, 0, 7);
        TrimmedPeaks high = laid("p3,1;o0,3,9;o0,4,3;w0;");
        high.pass(1);
        pinsAre("lowest by number, not by pins", high, 0, 0, 0, 0, 7, 2);
        TrimmedPeaks lace = laid("p3,1;o0,4,9;w0;");
        lace.pass(1);
        pinsAre("the lace alone", lace, 0, 0, 0, 0, 0, 7);
        TrimmedPeaks bare = laid("p3,1;w0;");
        bare.pass(1);
        pinsAre("nothing on", bare, 0, 0, 0, 0, 0, 0);
    }

    private static void goatsAlone() {
        TrimmedPeaks x = laid("p0,1;p1,1;p2,1;p3,1;p3,1;o0,0,9;o1,0,9;o2,0,9;o3,0,9;o4,0,9;w0;");
        x.pass(1);
        int[] left = {8, 8, 8, 7, 7};
        for (int p = 0; p < 5; p++) {
            due("pins of " + p, x.pins(p, VEIL), left[p]);
        }
    }

    private static void goneNotInStore() {
        TrimmedPeaks x = laid("p0,1;p3,1;s0,1;s1,0;o0,0,1;o0,1,2;o1,2,4;w3;");
        x.put(1, VEIL, 2);
        x.pass(1);
        due("none on but the feather", x.count(2), 1);
        int[] stores = {0, 0, 2, 2, 2};
        for (int t = 0; t < 5; t++) {
            due("store of " + t, x.store(t), stores[t]);
        }
        due("none can be put on", x.put(0, VEIL, 1), NO);
    }

    private static void eachYearItsWind() {
        TrimmedPeaks x = laid("p0,1;o0,0,8;o0,1,9;o0,2,10;w0;w1;w8;");
        due("two years", x.pass(2), 2);
        pinsAre("two years", x, 0, 6, 7, 8);
        due("one year", x.pass(1), 3);
        pinsAre("the third year", x, 0, 0, 0, 7);
        due("two years more", x.pass(2), 5);
        pinsAre("the first winds again", x, 0, 0, 0, 5);
        due("the sixth", x.pass(1), 6);
        pinsAre("the third wind again", x, 0, 0, 0, 0);
    }

    private static void yearsAtOneTime() {
        TrimmedPeaks x = laid("p0,1;o0,0,20;o0,1,19;w0;");
        badBeyond("pass", x::pass, 1, 20);
        allBad("pass", x::pass, -1, -20);
        due("the year stays", x.count(1), 0);
        due("1", x.pass(1), 1);
        pinsAre("1 year", x, 0, 19, 18);
        x.undo();
        due("19", x.pass(19), 19);
        pinsAre("19 years", x, 0, 1, 0);
        x.undo();
        due("20", x.pass(20), 20);
        pinsAre("20 years", x, 0, 0, 0);
    }

    private static void lastYear() {
        TrimmedPeaks x = inYear(laid("p0,1;w0;w1;"), 979);
        due("20 to 999", x.pass(20), 999);
        x.undo();
        x.pass(1);
        due("20 from 980", x.pass(20), NO);
        due("the year stays", x.count(1), 980);
        x.put(0, VEIL, 20);
        due("18 from 980", x.pass(18), 998);
        due("2 from 998", x.pass(2), NO);
        due("20 from 998", x.pass(20), NO);
        due("pins stay", x.pins(0, VEIL), 2);
        int acts = x.count(7);
        due("1 from 998", x.pass(1), 999);
        due("it is 999", x.count(1), 999);
        due("1 from 999", x.pass(1), NO);
        due("20 from 999", x.pass(20), NO);
        due("pins stay in 999", x.pins(0, VEIL), 1);
        due("what was refused is no act", x.count(7), Math.min(8, acts + 1));
        due("acts go on in 999", x.put(0, BOW, 1), 3);
        x.undo();
        x.undo();
        due("998 again", x.count(1), 998);
        due("and 999", x.pass(1), 999);
    }

    private static void undoEach() {
        TrimmedPeaks x = laid("p0,1;p3,1;s1,1;o0,0,9;o1,0,9;w3;w1;");
        x.put(1, BOW, 5);
        x.take(0, VEIL);
        x.pin(1, VEIL, 20);
        x.pass(1);
        pinsAre("all done", x, 1, 18, 4);
        due("the year", x.undo(), 3);
        due("it is", x.count(1), 0);
        pinsAre("the year undone", x, 1, 20, 5);
        due("guide", x.peak(0, 3), 1);
        due("wind", x.wind(0), 3);
        due("pinned", x.undo(), 2);
        pinsAre("pinned undone", x, 1, 9, 5);
        due("taken off", x.undo(), 1);
        due("on again", x.pins(0, VEIL), 9);
        due("not in store", x.store(VEIL), 2);
        due("put on", x.undo(), 0);
        pinsAre("put on undone", x, 1, 9, 0);
        due("in store", x.store(BOW), 1);
        due("no more", x.undo(), NO);
        due("count", x.count(7), 0);
    }

    private static void undoYears() {
        TrimmedPeaks x = laid("p0,1;o0,0,20;w0;");
        x.pass(5);
        x.pass(1);
        x.pass(1);
        due("three acts", x.count(7), 3);
        due("one", x.undo(), 2);
        due("year 6", x.count(1), 6);
        due("one more", x.undo(), 1);
        due("year 5", x.count(1), 5);
        due("five years", x.undo(), 0);
        due("year 0", x.count(1), 0);
        due("pins", x.pins(0, VEIL), 20);
    }

    private static void undoLastEight() {
        for (int acts = 1; acts <= 20; acts++) {
            TrimmedPeaks x = laid("p0,1;o0,0,20;");
            for (int n = 1; n <= acts; n++) {
                x.pin(0, VEIL, n);
            }
            int can = Math.min(8, acts);
            due("can be of " + acts, x.count(7), can);
            for (int left = can - 1; left >= 0; left--) {
                due("undo of " + acts, x.undo(), left);
                int had = acts - can + left;
                due("pins behind it", x.pins(0, VEIL), had == 0 ? 20 : had);
            }
            due("no more of " + acts, x.undo(), NO);
            due("pins stay", x.pins(0, VEIL), acts <= 8 ? 20 : acts - 8);
        }
    }

    private static void undoAndGoOn() {
        TrimmedPeaks x = laid("p0,1;o0,0,20;");
        for (int n = 1; n <= 10; n++) {
            x.pin(0, VEIL, n);
        }
        due("undo", x.undo(), 7);
        due("undo", x.undo(), 6);
        x.pin(0, VEIL, 18);
        x.pin(0, VEIL, 19);
        due("eight again", x.count(7), 8);
        x.pin(0, VEIL, 17);
        due("eight still", x.count(7), 8);
        int[] pins = {19, 18, 8, 7, 6, 5, 4, 3};
        for (int i = 0; i < pins.length; i++) {
            due("undo", x.undo(), 7 - i);
            due("pins", x.pins(0, VEIL), pins[i]);
        }
        due("no more", x.undo(), NO);
    }

    private static void undoNothing() {
        TrimmedPeaks x = laid("p0,1;s1,0;o0,0,9;");
        due("at first", x.undo(), NO);
        x.put(0, VEIL, 1);
        x.put(0, BOW, 1);
        x.put(0, LACE, 21);
        x.take(0, LACE);
        x.pin(0, LACE, 1);
        x.pin(0, VEIL, 0);
        x.pass(0);
        x.pass(21);
        x.behind(20, 0);
        x.century(1, 60, 0);
        x.say(VEIL, 1);
        x.forget();
        x.keep();
        x.write('p');
        x.wipe();
        due("can be", x.count(7), 0);
        due("behind all that", x.undo(), NO);
        due("pins", x.pins(0, VEIL), 9);
    }

    private static void undoLeaves() {
        TrimmedPeaks x = laid("p0,1;o0,0,9;");
        x.take(0, VEIL);
        x.say(BOW, 0);
        x.keep();
        x.write('p');
        due("undo", x.undo(), 0);
        due("said", x.count(6), 1);
        due("kept", x.count(8), 1);
        due("letters", x.count(9), 13);
        due("back", x.back(), 0);
        due("as kept", x.pins(0, VEIL), 0);
    }
}
