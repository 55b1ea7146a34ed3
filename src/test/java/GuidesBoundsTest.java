/** Promises 22 to 26: what is said of a peak, what to ask, whose guide is whose; each sentence at its bounds. */
public final class GuidesBoundsTest extends Checks {
    public static void main(String[] args) {
        sentence("22 SAID: 6 at most", GuidesBoundsTest::saidAtMost);
        sentence("22 SAID: a TRIMMING 0 to 4, 1 or 0", GuidesBoundsTest::saidNumbers);
        sentence("22 SAID twice is SAID twice", GuidesBoundsTest::saidTwice);
        sentence("23 nothing is SAID: how many were", GuidesBoundsTest::forgotten);
        sentence("24 WHICH: all PEAKS when nothing is SAID", GuidesBoundsTest::whichOfAll);
        sentence("24 WHICH: all that is SAID is so", GuidesBoundsTest::whichAllIsSo);
        sentence("24 WHICH: by what is ON now", GuidesBoundsTest::whichNow);
        sentence("25 ASK: the greater part is fewest", GuidesBoundsTest::askFewest);
        sentence("25 ASK: of several the lowest", GuidesBoundsTest::askLowest);
        sentence("25 ASK: of which nothing is SAID", GuidesBoundsTest::askUnsaid);
        sentence("25 ASK: of WHICH alone", GuidesBoundsTest::askOfWhich);
        sentence("25 ASK: none, WHICH is none", GuidesBoundsTest::askWhichIsNone);
        sentence("25 ASK: none, all were SAID", GuidesBoundsTest::askAllSaid);
        sentence("26 MATCH: none ON that its GUIDE does not tell", GuidesBoundsTest::matchTold);
        sentence("26 MATCH: all ways, one GUIDE each", GuidesBoundsTest::matchWays);
        sentence("26 MATCH: the first way", GuidesBoundsTest::matchFirst);
        sentence("26 MATCH: none", GuidesBoundsTest::matchNone);
        sentence("26 MATCH: p is -1 or a PEAK", GuidesBoundsTest::matchNumbers);
        end("GuidesBoundsTest");
    }

    private static void askIs(String what, TrimmedPeaks x, int trimming, int part) {
        due(what + ", which", x.ask(0), trimming);
        due(what + ", how many", x.ask(1), part);
    }

    private static void matchIs(String what, TrimmedPeaks x, int ways, int... whose) {
        due(what + ", ways", x.match(-1), ways);
        for (int p = 0; p < whose.length; p++) {
            due(what + ", guide of peak " + p, x.match(p), whose[p]);
        }
    }

    private static void saidAtMost() {
        TrimmedPeaks x = laid("p0,1;p0,1;o0,0,1;");
        int[][] said = {{VEIL, 1}, {BOW, 0}, {FEATHER, 0}, {BRIM, 0}, {BOW, 0}, {FEATHER, 0}};
        for (int i = 0; i < 6; i++) {
            due("said before", x.count(6), i);
            due("say", x.say(said[i][0], said[i][1]), i + 1);
        }
        due("the seventh", x.say(LACE, 1), FULL);
        due("the seventh again", x.say(VEIL, 0), FULL);
        due("six", x.count(6), 6);
        due("which, without the seventh", x.which(), 1);
        askIs("of what was not said", x, LACE, 1);
        due("forget", x.forget(), 6);
        due("the first again", x.say(LACE, 1), 1);
    }

    private static void saidNumbers() {
        TrimmedPeaks x = laid("p0,1;p0,1;o0,0,1;o1,4,1;");
        badBeyond("say t", t -> x.say(t, 1), 0, 4);
        badBeyond("say is", is -> x.say(VEIL, is), 0, 1);
        due("nothing is said", x.count(6), 0);
        due("which", x.which(), 3);
        due("the lowest, it has", x.say(VEIL, 1), 1);
        due("which", x.which(), 1);
        x.forget();
        due("the lowest, it has not", x.say(VEIL, 0), 1);
        due("which", x.which(), 2);
        x.forget();
        due("the last, it has", x.say(LACE, 1), 1);
        due("which", x.which(), 2);
        x.forget();
        due("the last, it has not", x.say(LACE, 0), 1);
        due("which", x.which(), 1);
    }

    private static void saidTwice() {
        TrimmedPeaks x = laid("p0,1;p0,1;o0,0,1;");
        due("once", x.say(VEIL, 1), 1);
        due("twice", x.say(VEIL, 1), 2);
        due("which", x.which(), 1);
        due("the contrary", x.say(VEIL, 0), 3);
        due("which then", x.which(), 0);
    }

    private static void forgotten() {
        TrimmedPeaks x = laid("p0,1;p0,1;o0,0,1;");
        due("none", x.forget(), 0);
        for (int many = 1; many <= 6; many++) {
            for (int i = 0; i < many; i++) {
                x.say(i % 5, i % 2);
            }
            due("forget " + many, x.forget(), many);
            due("said", x.count(6), 0);
            due("which", x.which(), 3);
            askIs("all can be asked for", x, VEIL, 1);
        }
        due("forget again", x.forget(), 0);
        due("nothing to undo", x.count(7), 0);
    }

    private static void whichOfAll() {
        for (int peaks = 1; peaks <= 6; peaks++) {
            TrimmedPeaks x = laid("p0,1;".repeat(peaks) + "o0,0,1;");
            due("of " + peaks, x.which(), (1 << peaks) - 1);
            x.say(VEIL, 0);
            due("without a veil of " + peaks, x.which(), (1 << peaks) - 2);
        }
        TrimmedPeaks six = laid("p0,1;".repeat(6) + "o5,4,1;");
        six.say(LACE, 1);
        due("the last of six", six.which(), 32);
    }

    private static void whichAllIsSo() {
        TrimmedPeaks x = laid("p0,1;p0,1;p0,1;p0,1;o1,0,1;o2,1,1;o3,0,1;o3,1,1;");
        x.say(VEIL, 1);
        due("with a veil", x.which(), 2 + 8);
        x.say(BOW, 0);
        due("without a bow, too", x.which(), 2);
        x.say(LACE, 0);
        due("what is so of all", x.which(), 2);
        x.say(LACE, 1);
        due("what is so of none", x.which(), 0);
        x.forget();
        x.say(BOW, 0);
        x.say(VEIL, 0);
        due("bare", x.which(), 1);
    }

    private static void whichNow() {
        TrimmedPeaks x = laid("p0,1;p0,1;o0,0,1;w0;");
        x.say(VEIL, 1);
        due("told", x.which(), 1);
        x.put(1, VEIL, 9);
        due("put on", x.which(), 3);
        x.pass(1);
        due("gone", x.which(), 2);
        x.undo();
        due("undone", x.which(), 3);
        x.keep();
        x.take(0, VEIL);
        due("taken off", x.which(), 2);
        x.back();
        due("back", x.which(), 3);
        due("said all the while", x.count(6), 1);
    }

    private static void askFewest() {
        String six = "p0,1;".repeat(6);
        String veils = "o0,0,1;";
        String bows = "o0,1,1;o1,1,1;o2,1,1;o3,1,1;";
        String brims = "o3,3,1;o4,3,1;o5,3,1;";
        askIs("1 and 5", laid(six + veils), VEIL, 5);
        askIs("4 and 2 ahead of 1 and 5", laid(six + veils + bows), BOW, 4);
        askIs("3 and 3 ahead of both", laid(six + veils + bows + brims), BRIM, 3);
        askIs("none has any", laid(six), VEIL, 6);
        askIs("all have it, the rest as well", laid("p0,1;p0,1;o0,0,1;o1,0,1;"), VEIL, 2);
        askIs("the last one tells", laid("p0,1;p0,1;o0,0,1;o1,0,1;o1,4,1;"), LACE, 1);
        askIs("one alone", laid("p0,1;"), VEIL, 1);
    }

    private static void askLowest() {
        askIs("bow or lace", laid("p0,1;p0,1;o0,1,1;o1,4,1;"), BOW, 1);
        askIs("1 and 2 or 2 and 1", laid("p0,1;p0,1;p0,1;o0,2,1;o0,3,1;o1,3,1;"), FEATHER, 2);
        askIs("2 and 1 or 1 and 2", laid("p0,1;p0,1;p0,1;o0,3,1;o0,2,1;o1,2,1;"), FEATHER, 2);
    }

    private static void askUnsaid() {
        TrimmedPeaks x = laid("p0,1;p0,1;p0,1;p0,1;o0,0,1;o1,0,1;");
        askIs("nothing said", x, VEIL, 2);
        x.say(VEIL, 0);
        askIs("the veil was said", x, BOW, 2);
        x.say(FEATHER, 0);
        askIs("the feather was said, too", x, BOW, 2);
        x.say(BOW, 0);
        askIs("three were said", x, BRIM, 2);
        x.forget();
        askIs("forgotten", x, VEIL, 2);
        x.say(VEIL, 1);
        askIs("it has one: said as well", x, BOW, 2);
    }

    private static void askOfWhich() {
        TrimmedPeaks x = laid("p0,1;p0,1;p0,1;p0,1;p0,1;o0,0,1;o1,0,1;o1,4,1;o2,1,1;o3,1,1;");
        askIs("of five", x, VEIL, 3);
        x.say(VEIL, 1);
        askIs("of the two with a veil", x, LACE, 1);
        x.forget();
        x.say(VEIL, 0);
        askIs("of the three without", x, BOW, 2);
        x.say(BOW, 0);
        askIs("of one", x, FEATHER, 1);
    }

    private static void askWhichIsNone() {
        TrimmedPeaks x = laid("p0,1;p0,1;o0,0,1;");
        x.say(BOW, 1);
        due("which", x.which(), 0);
        askIs("of none", x, NONE, NONE);
        badBeyond("ask of none", x::ask, 0, 1);
        x.put(1, BOW, 1);
        askIs("of one", x, VEIL, 1);
    }

    private static void askAllSaid() {
        TrimmedPeaks x = laid("p0,1;p0,1;");
        for (int t = 0; t < 4; t++) {
            x.say(t, 0);
            askIs("said to " + t, x, t + 1, 2);
        }
        x.say(LACE, 0);
        due("which", x.which(), 3);
        askIs("all said", x, NONE, NONE);
        badBeyond("ask, all said", x::ask, 0, 1);
    }

    private static void matchTold() {
        TrimmedPeaks x = laid("p0,1;o0,0,9;o0,1,9;w0;");
        matchIs("as the guide tells", x, 1, 0);
        x.take(0, BOW);
        matchIs("less than it tells", x, 1, 0);
        x.take(0, VEIL);
        matchIs("nothing on", x, 1, 0);
        x.put(0, FEATHER, 3);
        matchIs("one that it does not tell", x, 0, NONE);
        x.put(0, BOW, 3);
        matchIs("one that it tells, one that it does not", x, 0, NONE);
        x.pass(1);
        matchIs("the guide of the next year", x, 1, 0);
    }

    private static void matchWays() {
        int[] ways = {1, 2, 6, 24, 120, 720};
        for (int peaks = 1; peaks <= 6; peaks++) {
            TrimmedPeaks bare = laid("p0,1;".repeat(peaks));
            due("bare, of " + peaks, bare.match(-1), ways[peaks - 1]);
            TrimmedPeaks veils = laid("p0,1;".repeat(peaks) + "o0,0,1;");
            due("one with a veil, of " + peaks, veils.match(-1), peaks == 1 ? 1 : ways[peaks - 2]);
        }
        matchIs("each its own", laid("p0,1;p0,1;p0,1;o0,0,1;o1,1,1;o2,2,1;"), 1, 0, 1, 2);
    }

    private static void matchFirst() {
        for (int peaks = 1; peaks <= 6; peaks++) {
            TrimmedPeaks bare = laid("p0,1;".repeat(peaks));
            for (int p = 0; p < peaks; p++) {
                due("bare, of " + peaks, bare.match(p), p);
            }
        }
        TrimmedPeaks x = laid("p0,1;p0,1;p0,1;o0,0,9;o1,1,9;o2,2,9;");
        x.take(0, VEIL);
        x.take(1, BOW);
        x.take(2, FEATHER);
        matchIs("all bare now", x, 6, 0, 1, 2);
        x.put(2, VEIL, 1);
        matchIs("the last has the first guide", x, 2, 1, 2, 0);
        x.put(1, FEATHER, 1);
        matchIs("the second the last", x, 1, 1, 2, 0);
        x.take(2, VEIL);
        matchIs("the lowest for peak 0 ahead", x, 2, 0, 2, 1);
        TrimmedPeaks left = laid("p0,1;p0,1;p0,1;o0,1,9;o1,0,9;o1,2,9;o2,0,9;");
        left.take(0, BOW);
        left.put(0, VEIL, 1);
        left.take(1, VEIL);
        left.take(2, VEIL);
        matchIs("the lowest that leaves a way for the others", left, 1, 2, 1, 0);
    }

    private static void matchNone() {
        TrimmedPeaks x = laid("p0,1;p0,1;o0,0,9;");
        matchIs("one way", x, 1, 0, 1);
        x.put(1, VEIL, 1);
        matchIs("two for one guide", x, 0, NONE, NONE);
        x.take(0, VEIL);
        matchIs("the other has it", x, 1, 1, 0);
        x.put(0, LACE, 1);
        matchIs("no guide tells of it", x, 0, NONE, NONE);
    }

    private static void matchNumbers() {
        TrimmedPeaks x = laid("p0,1;p0,1;");
        badBeyond("match", x::match, -1, 1);
        x.put(0, VEIL, 1);
        badBeyond("match, no way", x::match, -1, 1);
        due("six peaks, the last", laid("p0,1;".repeat(6)).match(5), 5);
        badBeyond("match of six", laid("p0,1;".repeat(6))::match, -1, 5);
    }
}
