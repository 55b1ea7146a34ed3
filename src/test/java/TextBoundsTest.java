/** Promises 1 to 5: what a text is, where its fault is, what is laid by it; each sentence at its bounds. */
public final class TextBoundsTest extends Checks {
    /** Every kind of item, and where each begins. */
    private static final String ITEMS = "p1,2;s1,2;o0,1,2;w1;";
    private static final int[] BEGINNINGS = {0, 5, 10, 17, 20};

    public static void main(String[] args) {
        sentence("1 a new object is as told", TextBoundsTest::newIsAsTold);
        sentence("1 THE TEXT is empty", TextBoundsTest::newTextIsEmpty);
        sentence("2 a letter is 32 to 126", TextBoundsTest::letters);
        sentence("2 a TEXT is 200 letters at most", TextBoundsTest::lettersAtMost);
        sentence("2 what is FULL stays", TextBoundsTest::fullTextStays);
        sentence("3 wipe", TextBoundsTest::wiped);
        sentence("4 an ITEM is a letter first", TextBoundsTest::itemLetters);
        sentence("4 as many numbers as told", TextBoundsTest::numbersOfItems);
        sentence("4 one or two figures", TextBoundsTest::figuresMany);
        sentence("4 figures are 0 to 9", TextBoundsTest::figures);
        sentence("4 two figures are one number", TextBoundsTest::tens);
        sentence("4 parted by , and a ; behind the last one", TextBoundsTest::partings);
        sentence("4 an ITEM that is cut off", TextBoundsTest::cutOff);
        sentence("4 FAULT is of the first ITEM that is not so", TextBoundsTest::firstFault);
        sentence("4 FAULT: none", TextBoundsTest::noFault);
        sentence("4 fault() changes nothing", TextBoundsTest::faultChangesNothing);
        sentence("4 KIND 0 to 3", TextBoundsTest::kinds);
        sentence("4 1 to 20 HIGH", TextBoundsTest::heights);
        sentence("4 6 PEAKS at most", TextBoundsTest::peaksAtMost);
        sentence("4 0, 1, .. side by side", TextBoundsTest::peaksInTheirOrder);
        sentence("4 TRIMMING 0 to 4, 0 to 9 in STORE", TextBoundsTest::stores);
        sentence("4 2 in STORE without", TextBoundsTest::storeWithout);
        sentence("4 of several in STORE the last one counts", TextBoundsTest::lastStore);
        sentence("4 ON a PEAK told ahead", TextBoundsTest::onPeakToldAhead);
        sentence("4 TRIMMING 0 to 4 ON, 1 to 20 PINS", TextBoundsTest::pinsOn);
        sentence("4 not out of the STORE", TextBoundsTest::notOutOfTheStore);
        sentence("4 ON: the last one of both", TextBoundsTest::lastOfBoth);
        sentence("4 WIND 0 to 20", TextBoundsTest::windStrengths);
        sentence("4 12 WINDS at most", TextBoundsTest::windsAtMost);
        sentence("4 behind the last WIND the first again", TextBoundsTest::windsAgain);
        sentence("4 WIND 3 always without", TextBoundsTest::windWithout);
        sentence("5 LAID: of a PEAK at least", TextBoundsTest::aPeakAtLeast);
        sentence("5 LAID: without FAULT", TextBoundsTest::withoutFault);
        sentence("5 LAID: YEAR 0, nothing SAID, UNDONE, KEPT", TextBoundsTest::laidAnew);
        sentence("5 LAID: nothing of the range of before", TextBoundsTest::nothingOfBefore);
        sentence("5 LAID: the GUIDE is as it LOOKS then", TextBoundsTest::guideAsLaid);
        sentence("5 LAID: THE TEXT stays", TextBoundsTest::textStays);
        end("TextBoundsTest");
    }

    private static void newIsAsTold() {
        TrimmedPeaks x = new TrimmedPeaks();
        TrimmedPeaks told = laid("p0,9;p1,14;p2,6;p3,11;p0,17;s0,3;s1,1;s3,4;o0,0,5;o0,2,3;o1,0,9;o2,1,2;o3,0,4;"
            + "o3,2,6;o4,3,8;w3;w5;w2;w7;");
        for (int p = 0; p < 5; p++) {
            for (int what = 0; what < 6; what++) {
                due("peak " + p + " " + what, x.peak(p, what), told.peak(p, what));
            }
            for (int t = 0; t < 5; t++) {
                due("pins " + p + " " + t, x.pins(p, t), told.pins(p, t));
            }
        }
        for (int t = 0; t < 5; t++) {
            due("store " + t, x.store(t), told.store(t));
        }
        for (int n = 0; n < 9; n++) {
            due("wind " + n, x.wind(n), told.wind(n));
            due("count " + n, x.count(n), told.count(n));
        }
        pinsAre("new", x, 0, 5, 0, 3, 0, 0);
        pinsAre("new", x, 1, 9, 0, 0, 0, 0);
        pinsAre("new", x, 2, 0, 2, 0, 0, 0);
        pinsAre("new", x, 3, 4, 0, 6, 0, 0);
        pinsAre("new", x, 4, 0, 0, 0, 8, 0);
        due("five peaks", x.peak(5, 0), BAD);
    }

    private static void newTextIsEmpty() {
        TrimmedPeaks x = new TrimmedPeaks();
        due("letters", x.count(9), 0);
        due("fault", x.fault(), NONE);
        due("lay", x.lay(), NO);
        due("peaks all the same", x.count(0), 5);
        due("wipe", x.wipe(), 0);
        due("the first letter", x.write('p'), 1);
    }

    private static void letters() {
        TrimmedPeaks x = new TrimmedPeaks();
        badBeyond("write", x::write, 32, 126);
        allBad("write", x::write, -1, 0, 10, 255, 256 + 'p', 65536 + 'p');
        due("letters", x.count(9), 0);
        for (int letter = 32; letter <= 126; letter++) {
            due("write " + letter, x.write(letter), letter - 31);
        }
    }

    private static void lettersAtMost() {
        String long199 = "p0,1;" + "s0,1;".repeat(37) + "w1;w1;w1;";
        TrimmedPeaks x = written(long199);
        due("198 letters and one", x.count(9), 199);
        due("the 200th", x.write('p'), 200);
        due("the 201st", x.write('p'), FULL);
        due("once more", x.write(';'), FULL);
        due("letters", x.count(9), 200);
        due("fault in the last letter", x.fault(), 199);
        due("fault without it", written(long199).fault(), NONE);
    }

    private static void fullTextStays() {
        TrimmedPeaks x = written("p2,7;" + "s0,1;".repeat(36) + "w1;w1;w1;w1;w9;");
        due("a letter too many", x.write('q'), FULL);
        due("fault", x.fault(), NONE);
        due("lay", x.lay(), 1);
        due("the last wind", x.wind(4), 9);
        due("wipe", x.wipe(), 200);
        due("the first letter then", x.write('q'), 1);
    }

    private static void wiped() {
        TrimmedPeaks x = written("p0,1;p");
        due("wipe of six", x.wipe(), 6);
        due("letters", x.count(9), 0);
        due("wipe of none", x.wipe(), 0);
        due("no fault in none", x.fault(), NONE);
        due("nothing to lay", x.lay(), NO);
        due("write", x.write('w'), 1);
        due("wipe of one", x.wipe(), 1);
        due("the range stays", x.count(0), 5);
    }

    private static void itemLetters() {
        for (char letter = 32; letter <= 126; letter++) {
            String first = "p0,1;" + letter;
            faultOf(first + "1;", letter == 'w' ? NONE : 5);
            faultOf(first + "1,1;", letter == 'p' || letter == 's' ? NONE : 5);
            faultOf(first + "0,1,1;", letter == 'o' ? NONE : 5);
            faultOf(first, 5);
        }
    }

    private static void numbersOfItems() {
        String[] items = {"p", "s", "o", "w"};
        int[] due = {2, 2, 3, 1};
        for (int i = 0; i < items.length; i++) {
            StringBuilder numbers = new StringBuilder();
            for (int many = 0; many <= 5; many++) {
                faultOf("p0,1;p0,1;" + items[i] + numbers + ";", many == due[i] ? NONE : 10);
                numbers.append(many == 0 ? "1" : ",1");
            }
        }
    }

    private static void figuresMany() {
        String[] items = {"p#,1;", "p1,#;", "s#,1;", "s1,#;", "o#,1,1;", "o1,#,1;", "o1,1,#;", "w#;"};
        for (String item : items) {
            String text = "p0,1;p0,1;" + item;
            faultOf(text.replace("#", ""), 10);
            faultOf(text.replace("#", "1"), NONE);
            faultOf(text.replace("#", "01"), NONE);
            faultOf(text.replace("#", "001"), 10);
            faultOf(text.replace("#", "-1"), 10);
            faultOf(text.replace("#", " 1"), 10);
            faultOf(text.replace("#", "1 "), 10);
        }
    }

    private static void figures() {
        for (char sign = 32; sign <= 126; sign++) {
            boolean isFigure = sign >= '0' && sign <= '9';
            faultOf("p0,1;s1," + sign + ";", isFigure ? NONE : 5);
            faultOf("p0,1;w" + sign + ";", isFigure ? NONE : 5);
            if (sign != ';') {
                faultOf("p0,1;w1" + sign + ";", isFigure ? NONE : 5);
            }
        }
    }

    private static void tens() {
        TrimmedPeaks x = laid("p0,10;p03,09;o01,04,12;o0,0,20;s00,07;w19;w01;w10;");
        due("height 10", x.peak(0, 1), 10);
        due("kind 03", x.peak(1, 0), 3);
        due("height 09", x.peak(1, 1), 9);
        due("pins 12", x.pins(1, LACE), 12);
        due("pins 20", x.pins(0, VEIL), 20);
        due("store 07", x.store(VEIL), 7);
        due("wind 19", x.wind(0), 19);
        due("wind 01", x.wind(1), 1);
        due("wind 10", x.wind(2), 10);
    }

    private static void partings() {
        String[] items = {"p1,2;", "s1,2;", "o0,1,2;", "w1;"};
        for (String item : items) {
            for (int at = 2; at < item.length(); at += 2) {
                for (char sign = 32; sign <= 126; sign++) {
                    String text = "p0,1;" + item.substring(0, at) + sign + item.substring(at + 1);
                    faultOf(text, sign == item.charAt(at) ? NONE : 5);
                }
            }
        }
        faultOf("p0,1;;", 5);
        faultOf("p0,1;,", 5);
        faultOf("p0,1; w1;", 5);
        faultOf("p0,1;w1,;", 5);
        faultOf("p0,1;w,1;", 5);
    }

    private static void cutOff() {
        int item = 0;
        for (int length = 0; length <= ITEMS.length(); length++) {
            if (length == BEGINNINGS[item + 1]) {
                item++;
            }
            faultOf(ITEMS.substring(0, length), length == BEGINNINGS[item] ? NONE : BEGINNINGS[item]);
        }
    }

    private static void firstFault() {
        faultOf("p0,21;p4,1;", 0);
        faultOf("p0,20;p4,1;q", 6);
        faultOf("p0,1;w21;x", 5);
        faultOf("p0,1;x;w21;", 5);
        faultOf("p0,1;o0,0,21;", 5);
        faultOf("p0,1;o0,0,20;o0,0,0;", 13);
        faultOf("p0,1;s0,1;s5,1;s0,1;", 10);
        faultOf("p0,1;w1;w1", 8);
    }

    private static void noFault() {
        faultOf("", NONE);
        faultOf("w1;", NONE);
        faultOf("s1,1;w1;", NONE);
        faultOf(ITEMS, NONE);
    }

    private static void faultChangesNothing() {
        String[] texts = {"p3,3;s0,9;w20;q", "p3,3;s0,9;w20;", "w20;"};
        int[] faults = {14, NONE, NONE};
        for (int i = 0; i < texts.length; i++) {
            TrimmedPeaks x = written(texts[i]);
            due("fault", x.fault(), faults[i]);
            due("fault again", x.fault(), faults[i]);
            due("letters", x.count(9), texts[i].length());
            due("peaks", x.count(0), 5);
            due("kind", x.peak(0, 0), 0);
            due("store", x.store(VEIL), 3);
            due("wind", x.wind(0), 3);
            due("trimmings on", x.count(2), 7);
        }
    }

    private static void kinds() {
        for (int kind = 0; kind <= 99; kind++) {
            faultOf("p" + kind + ",1;", kind <= 3 ? NONE : 0);
        }
        TrimmedPeaks x = laid("p0,1;p1,1;p2,1;p3,1;");
        for (int kind = 0; kind <= 3; kind++) {
            due("kind", x.peak(kind, 0), kind);
        }
    }

    private static void heights() {
        for (int height = 0; height <= 99; height++) {
            faultOf("p0," + height + ";", height >= 1 && height <= 20 ? NONE : 0);
        }
        faultOf("p0,00;", 0);
        due("1 high", laid("p0,1;").peak(0, 1), 1);
        due("20 high", laid("p0,20;").peak(0, 1), 20);
    }

    private static void peaksAtMost() {
        faultOf("p0,1;".repeat(5), NONE);
        faultOf("p0,1;".repeat(6), NONE);
        faultOf("p0,1;".repeat(7), 30);
        faultOf("p0,1;".repeat(6) + "w1;p0,1;", 33);
        due("lay of five", written("p0,1;".repeat(5)).lay(), 5);
        TrimmedPeaks six = written("p0,1;".repeat(5) + "p3,12;");
        due("lay of six", six.lay(), 6);
        due("the last of six", six.peak(5, 1), 12);
        due("none behind it", six.peak(6, 1), BAD);
    }

    private static void peaksInTheirOrder() {
        TrimmedPeaks x = laid("p3,20;w4;p0,1;s1,1;p2,11;");
        int[] kinds = {3, 0, 2};
        int[] heights = {20, 1, 11};
        for (int p = 0; p < 3; p++) {
            due("kind of " + p, x.peak(p, 0), kinds[p]);
            due("height of " + p, x.peak(p, 1), heights[p]);
        }
    }

    private static void stores() {
        for (int t = 0; t <= 99; t++) {
            faultOf("p0,1;s" + t + ",1;", t <= 4 ? NONE : 5);
        }
        for (int n = 0; n <= 99; n++) {
            faultOf("p0,1;s1," + n + ";", n <= 9 ? NONE : 5);
        }
        TrimmedPeaks x = laid("s0,0;s4,9;p0,1;");
        due("none in store", x.store(VEIL), 0);
        due("nine in store", x.store(LACE), 9);
    }

    private static void storeWithout() {
        TrimmedPeaks none = laid("p0,1;");
        for (int t = 0; t < 5; t++) {
            due("store of " + t, none.store(t), 2);
            TrimmedPeaks one = laid("p0,1;s" + t + ",7;");
            for (int other = 0; other < 5; other++) {
                due("store of " + other + ", " + t + " told", one.store(other), other == t ? 7 : 2);
            }
        }
        due("in store in all", none.count(3), 10);
    }

    private static void lastStore() {
        TrimmedPeaks x = laid("s2,9;p0,1;s2,0;s1,3;s2,4;s1,1;");
        due("the last of three", x.store(FEATHER), 4);
        due("the last of two", x.store(BOW), 1);
        due("none is the last one, too", laid("p0,1;s0,9;s0,0;").store(VEIL), 0);
    }

    private static void onPeakToldAhead() {
        faultOf("o0,0,1;", 0);
        faultOf("o0,0,1;p0,1;", 0);
        faultOf("p0,1;o0,0,1;", NONE);
        faultOf("p0,1;o1,0,1;", 5);
        faultOf("p0,1;o1,0,1;p0,1;", 5);
        faultOf("p0,1;p0,1;o1,0,1;", NONE);
        faultOf("p0,1;".repeat(5) + "o5,0,1;", 25);
        faultOf("p0,1;".repeat(6) + "o5,0,1;", NONE);
        faultOf("p0,1;".repeat(6) + "o6,0,1;", 30);
        faultOf("p0,1;o99,0,1;", 5);
        due("on the last of six", laid("p0,1;".repeat(6) + "o5,4,3;").pins(5, LACE), 3);
    }

    private static void pinsOn() {
        for (int t = 0; t <= 99; t++) {
            faultOf("p0,1;o0," + t + ",1;", t <= 4 ? NONE : 5);
        }
        for (int n = 0; n <= 99; n++) {
            faultOf("p0,1;o0,0," + n + ";", n >= 1 && n <= 20 ? NONE : 5);
        }
        pinsAre("on", laid("p0,1;o0,0,1;o0,4,20;"), 0, 1, 0, 0, 0, 20);
    }

    private static void notOutOfTheStore() {
        TrimmedPeaks x = laid("p0,1;p0,1;s0,0;o0,0,5;o1,0,5;o0,1,5;o1,1,5;");
        due("none in store, but on", x.store(VEIL), 0);
        due("on the first", x.pins(0, VEIL), 5);
        due("on the second", x.pins(1, VEIL), 5);
        due("two in store, two on", x.store(BOW), 2);
        due("store told behind", laid("p0,1;o0,2,1;s2,1;").store(FEATHER), 1);
    }

    private static void lastOfBoth() {
        TrimmedPeaks x = laid("p0,1;p0,1;o0,0,5;o1,0,7;o0,1,9;o0,0,2;o1,1,1;o1,1,20;");
        pinsAre("the last one", x, 0, 2, 9, 0, 0, 0);
        pinsAre("the last one", x, 1, 7, 20, 0, 0, 0);
        due("four on", x.count(2), 4);
    }

    private static void windStrengths() {
        for (int wind = 0; wind <= 99; wind++) {
            faultOf("p0,1;w" + wind + ";", wind <= 20 ? NONE : 5);
        }
        due("wind 0", laid("p0,1;w0;").wind(0), 0);
        due("wind 20", laid("p0,1;w20;").wind(0), 20);
    }

    private static void windsAtMost() {
        faultOf("w1;".repeat(11), NONE);
        faultOf("w1;".repeat(12), NONE);
        faultOf("w1;".repeat(13), 36);
        faultOf("w1;".repeat(12) + "p0,1;w1;", 41);
        TrimmedPeaks x = laid("p0,1;w0;w1;w2;w3;w4;w5;w6;w7;w8;w9;w10;w11;");
        for (int n = 0; n < 30; n++) {
            due("wind " + n, x.wind(n), n % 12);
        }
    }

    private static void windsAgain() {
        TrimmedPeaks one = laid("p0,1;w7;");
        TrimmedPeaks three = laid("p0,1;w7;w8;w9;");
        int[] winds = {7, 8, 9};
        for (int year = 0; year < 8; year++) {
            due("one wind", one.wind(0), 7);
            due("wind of the year " + year, three.wind(0), winds[year % 3]);
            due("wind of the next to " + year, three.wind(1), winds[(year + 1) % 3]);
            due("force of the year " + year, three.peak(0, 4), winds[year % 3]);
            one.pass(1);
            three.pass(1);
        }
    }

    private static void windWithout() {
        TrimmedPeaks x = laid("p0,1;");
        due("wind 0", x.wind(0), 3);
        due("wind 1", x.wind(1), 3);
        due("wind 99", x.wind(99), 3);
        due("force", x.peak(0, 4), 3);
        inYear(x, 999);
        due("wind of the last year", x.wind(0), 3);
        TrimmedPeaks blown = laid("p0,1;o0,0,2;o0,1,3;");
        blown.pass(1);
        pinsAre("a year of wind 3", blown, 0, 0, 2);
    }

    private static void aPeakAtLeast() {
        due("none", written("").lay(), NO);
        due("winds alone", written("w1;").lay(), NO);
        due("stores and winds", written("s0,1;w1;s1,9;").lay(), NO);
        due("one", written("p0,1;").lay(), 1);
        due("one behind the others", written("s0,1;w1;p0,1;").lay(), 1);
        due("two", written("p0,1;p0,1;").lay(), 2);
    }

    private static void withoutFault() {
        TrimmedPeaks x = written("p2,5;p2,5;q");
        x.take(0, VEIL);
        x.say(VEIL, 1);
        x.keep();
        x.pass(1);
        due("lay", x.lay(), NO);
        int[] counts = {5, 1, 6, 13, 25, 5, 1, 2, 1, 11};
        for (int what = 0; what < counts.length; what++) {
            due("count " + what, x.count(what), counts[what]);
        }
        due("kind", x.peak(0, 0), 0);
        due("wind", x.wind(0), 5);
        due("fault in the last item alone", x.fault(), 10);
    }

    private static void laidAnew() {
        TrimmedPeaks x = written("p0,1;p0,1;o0,0,9;w1;");
        x.pass(3);
        x.say(VEIL, 0);
        x.say(BOW, 0);
        x.keep();
        x.keep();
        x.take(0, FEATHER);
        due("lay", x.lay(), 2);
        due("year", x.count(1), 0);
        due("said", x.count(6), 0);
        due("undone", x.count(7), 0);
        due("kept", x.count(8), 0);
        due("undo", x.undo(), NO);
        due("back", x.back(), NO);
        due("which", x.which(), 3);
        due("said before can be asked for", x.ask(0), VEIL);
        due("forget", x.forget(), 0);
        due("wind of year 0", x.wind(0), 1);
        due("keep", x.keep(), 1);
    }

    private static void nothingOfBefore() {
        TrimmedPeaks x = written("p1,3;");
        x.put(0, LACE, 20);
        due("lay", x.lay(), 1);
        due("peaks", x.count(0), 1);
        due("no second peak", x.peak(1, 0), BAD);
        due("trimmings on", x.count(2), 0);
        due("pins", x.count(4), 0);
        due("in store", x.count(3), 10);
        due("looks", x.peak(0, 2), 0);
        due("guide", x.peak(0, 3), 0);
        due("winds", x.wind(1), 3);
        due("which", x.which(), 1);
        due("pairs alike", x.alike(0), 0);
        due("ways", x.match(-1), 1);
    }

    private static void guideAsLaid() {
        TrimmedPeaks x = written("p0,1;p0,1;o0,0,9;o1,4,1;o1,1,1;");
        x.pass(1);
        x.lay();
        due("guide of 0", x.peak(0, 3), 1);
        due("guide of 1", x.peak(1, 3), 18);
        x.put(0, BOW, 1);
        x.lay();
        due("guide of 0, laid again", x.peak(0, 3), 1);
        due("looks of 0, laid again", x.peak(0, 2), 1);
    }

    private static void textStays() {
        TrimmedPeaks x = laid("p0,1;");
        due("letters", x.count(9), 5);
        due("lay again", x.lay(), 1);
        for (char letter : "p0,2;".toCharArray()) {
            x.write(letter);
        }
        due("one peak until laid", x.count(0), 1);
        due("lay with what came behind", x.lay(), 2);
        due("height of the second", x.peak(1, 1), 2);
        due("wipe", x.wipe(), 10);
        due("what is laid stays", x.count(0), 2);
    }
}
