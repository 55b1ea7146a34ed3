/** Each promise by hand: ordinary inputs, the edges that the document names, and wrong inputs. */
public final class PromisesTest extends Checks {
    public static void main(String[] args) {
        newObject();
        write();
        wipe();
        fault();
        faultLimits();
        lay();
        peak();
        pins();
        store();
        wind();
        put();
        take();
        pin();
        pass();
        goatsAndForce();
        undo();
        alike();
        known();
        behind();
        goes();
        hold();
        tell();
        add();
        say();
        forget();
        which();
        ask();
        match();
        storms();
        century();
        keep();
        back();
        count();
        firstOfSeveralWrongs();
        end("PromisesTest");
    }

    private static void newObject() {
        TrimmedPeaks x = new TrimmedPeaks();
        int[] counts = {5, 0, 7, 12, 37, 4, 0, 0, 0, 0};
        int[] kinds = {0, 1, 2, 3, 0};
        int[] heights = {9, 14, 6, 11, 17};
        int[] looks = {5, 1, 2, 5, 8};
        int[] stores = {3, 1, 2, 4, 2};
        int[] winds = {3, 5, 2, 7, 3};
        for (int i = 0; i < counts.length; i++) {
            due("new count " + i, x.count(i), counts[i]);
        }
        for (int i = 0; i < 5; i++) {
            due("new kind " + i, x.peak(i, 0), kinds[i]);
            due("new height " + i, x.peak(i, 1), heights[i]);
            due("new looks " + i, x.peak(i, 2), looks[i]);
            due("new guide " + i, x.peak(i, 3), looks[i]);
            due("new store " + i, x.store(i), stores[i]);
            due("new wind " + i, x.wind(i), winds[i]);
        }
        due("new undo", x.undo(), NO);
        due("new back", x.back(), NO);
        due("new lay (no text)", x.lay(), NO);
    }

    private static void write() {
        TrimmedPeaks x = new TrimmedPeaks();
        allBad("write", x::write, 31, 127, -1, 0, 256 + 'p', 65536 + 'p', LEAST, MOST);
        due("write 32", x.write(32), 1);
        due("write 126", x.write(126), 2);
        for (int i = 3; i <= 200; i++) {
            due("write", x.write('p'), i);
        }
        due("write full", x.write('p'), FULL);
        due("write bad when full", x.write(31), BAD);
        due("letters", x.count(9), 200);
    }

    private static void wipe() {
        TrimmedPeaks x = written("p0,1;q");
        due("wipe", x.wipe(), 6);
        due("wipe again", x.wipe(), 0);
        due("fault behind wipe", x.fault(), NONE);
        due("write behind wipe", x.write('p'), 1);
        due("peaks behind wipe", x.count(0), 5);
    }

    private static void fault() {
        faultOf("", NONE);
        faultOf("p0,1;", NONE);
        faultOf("p3,20;s4,9;o0,4,20;w20;", NONE);
        faultOf("p03,09;s00,00;o00,00,01;w00;", NONE);
        faultOf("w3;s1,1;", NONE);
        faultOf("q", 0);
        faultOf(" p0,1;", 0);
        faultOf("p0,1; ", 5);
        faultOf("p0,1;p0,1", 5);
        faultOf("p0,1;p", 5);
        faultOf("p0,1;p0,", 5);
        faultOf("p0,1;;", 5);
        faultOf("P0,1;", 0);
        faultOf("p0;", 0);
        faultOf("p0,1,1;", 0);
        faultOf("p0,001;", 0);
        faultOf("p,1;", 0);
        faultOf("p-1,1;", 0);
        faultOf("p0:1;", 0);
        faultOf("p0,1;w:;", 5);
        faultOf("p0,1;w1:;", 5);
        faultOf("p0,1;w/;", 5);
        faultOf("p0,1;w2/;", 5);
        faultOf("p0,1,", 0);
        faultOf("p0;1,", 0);
        faultOf("p0,1;s1;", 5);
        faultOf("p0,1;s1,2,3;", 5);
        faultOf("p0,1;o0,1;", 5);
        faultOf("p0,1;o0,1,2,3;", 5);
        faultOf("p0,1;w;", 5);
        faultOf("p0,1;w1,2;", 5);
        faultOf("p0,1;w100;", 5);
        faultOf("p0,1;wx;q", 5);
        faultOf("5;", 0);
    }

    private static void faultLimits() {
        faultOf("p4,1;", 0);
        faultOf("p0,0;", 0);
        faultOf("p0,21;", 0);
        faultOf("p0,1;s5,1;", 5);
        faultOf("p0,1;s0,10;", 5);
        faultOf("p0,1;o0,5,1;", 5);
        faultOf("p0,1;o0,0,0;", 5);
        faultOf("p0,1;o0,0,21;", 5);
        faultOf("p0,1;o1,0,1;p0,1;", 5);
        faultOf("o0,0,1;p0,1;", 0);
        faultOf("p0,1;w21;", 5);
        faultOf("p0,1;".repeat(6), NONE);
        faultOf("p0,1;".repeat(7), 30);
        faultOf("p0,1;" + "w1;".repeat(12), NONE);
        faultOf("p0,1;" + "w1;".repeat(13), 41);
        faultOf("s0,1;".repeat(40), NONE);
        faultOf("p0,1;" + "s0,1;".repeat(38) + "w1;w1", 198);
    }

    private static void lay() {
        TrimmedPeaks x = written("s0,3;s0,1;s4,0;p2,20;o0,1,4;o0,1,7;p3,1;o1,0,20;w9;w0;");
        x.put(4, BOW, 6);
        x.pass(1);
        x.say(VEIL, 1);
        x.keep();
        due("peaks until laid", x.count(0), 5);
        due("lay", x.lay(), 2);
        int[] counts = {2, 0, 2, 1 + 2 + 2 + 2, 27, 2, 0, 0, 0, 54};
        for (int i = 0; i < counts.length; i++) {
            due("laid count " + i, x.count(i), counts[i]);
        }
        due("the last of several stores", x.store(VEIL), 1);
        due("store of none", x.store(LACE), 0);
        due("store without", x.store(BOW), 2);
        due("the last of both", x.pins(0, BOW), 7);
        due("nothing of old", x.pins(0, VEIL), 0);
        due("guide as laid", x.peak(1, 3), 1);
        due("wind 0", x.wind(0), 9);
        due("wind 1", x.wind(1), 0);
        due("wind 2", x.wind(2), 9);
        due("nothing to undo", x.undo(), NO);
        due("nothing kept", x.back(), NO);
        due("lay again", x.lay(), 2);
        x.write('q');
        due("lay with a fault", x.lay(), NO);
        due("as before", x.pins(1, VEIL), 20);
        TrimmedPeaks y = written("w4;s0,9;");
        y.take(0, VEIL);
        due("lay without a peak", y.lay(), NO);
        due("nothing changed", y.count(7), 1);
        due("store as before", y.store(VEIL), 4);
    }

    private static void peak() {
        TrimmedPeaks x = laid("p1,5;p2,9;p0,3;p3,9;p0,12;o1,3,9;o3,3,9;o4,3,9;w1;w20;");
        due("kind", x.peak(3, 0), 3);
        due("height", x.peak(4, 1), 12);
        due("looks", x.peak(1, 2), 8);
        due("guide", x.peak(1, 3), 8);
        due("force windy", x.peak(0, 4), 3);
        due("force sheltered", x.peak(1, 4), 0);
        due("force plain", x.peak(2, 4), 1);
        due("force goats", x.peak(3, 4), 1);
        due("light by one", x.peak(0, 5), 9);
        due("light, lower beside", x.peak(1, 5), 12);
        due("light by two", x.peak(2, 5), 6);
        due("light by one on the other side", x.peak(3, 5), 9);
        due("light, none higher", x.peak(4, 5), 12);
        x.pass(1);
        due("force windy, year 1", x.peak(0, 4), 22);
        due("force sheltered, year 1", x.peak(1, 4), 18);
        due("force plain, year 1", x.peak(2, 4), 20);
        allBad("peak p", p -> x.peak(p, 0), -1, 5, 6, LEAST, MOST);
        allBad("peak what", what -> x.peak(0, what), -1, 6, LEAST, MOST);
        TrimmedPeaks even = laid("p0,7;p0,7;o1,3,9;");
        due("light by one as high", even.peak(0, 5), 12);
    }

    private static void pins() {
        TrimmedPeaks x = new TrimmedPeaks();
        due("pins", x.pins(1, VEIL), 9);
        due("pins of none", x.pins(1, BOW), 0);
        allBad("pins p", p -> x.pins(p, VEIL), -1, 5, LEAST, MOST);
        allBad("pins t", t -> x.pins(0, t), -1, 5, LEAST, MOST);
    }

    private static void store() {
        TrimmedPeaks x = new TrimmedPeaks();
        due("store told", x.store(BRIM), 4);
        due("store without", x.store(FEATHER), 2);
        allBad("store", x::store, -1, 5, LEAST, MOST);
        TrimmedPeaks y = laid("p0,1;s0,9;o0,0,4;");
        y.take(0, VEIL);
        due("store beyond 9", y.store(VEIL), 10);
    }

    private static void wind() {
        TrimmedPeaks x = new TrimmedPeaks();
        due("wind 0", x.wind(0), 3);
        due("wind 99", x.wind(99), 7);
        x.pass(2);
        due("wind from now on", x.wind(0), 2);
        due("wind 99 from now on", x.wind(99), 5);
        allBad("wind", x::wind, -1, 100, LEAST, MOST);
        due("wind without", laid("p0,1;").wind(57), 3);
    }

    private static void put() {
        TrimmedPeaks x = new TrimmedPeaks();
        due("put", x.put(1, BRIM, 20), 9);
        due("put pins", x.pins(1, BRIM), 20);
        due("put store", x.store(BRIM), 3);
        due("put guide stays", x.peak(1, 3), 1);
        due("put again", x.put(1, BRIM, 1), NO);
        due("put the last", x.put(1, BOW, 1), 11);
        due("put out of an empty store", x.put(0, BOW, 1), NO);
        due("put where it is on", x.put(0, VEIL, 1), NO);
        allBad("put p", p -> x.put(p, LACE, 1), -1, 5, LEAST, MOST);
        allBad("put t", t -> x.put(0, t, 1), -1, 5, LEAST, MOST);
        allBad("put n", n -> x.put(0, LACE, n), 0, 21, -1, LEAST, MOST);
        due("acts", x.count(7), 2);
    }

    private static void take() {
        TrimmedPeaks x = new TrimmedPeaks();
        due("take", x.take(3, FEATHER), 1);
        due("take store", x.store(FEATHER), 3);
        due("take pins", x.pins(3, FEATHER), 0);
        due("take guide stays", x.peak(3, 3), 5);
        due("take again", x.take(3, FEATHER), NO);
        allBad("take p", p -> x.take(p, VEIL), -1, 5, LEAST, MOST);
        allBad("take t", t -> x.take(0, t), -1, 5, LEAST, MOST);
        due("acts", x.count(7), 1);
    }

    private static void pin() {
        TrimmedPeaks x = new TrimmedPeaks();
        due("pin", x.pin(4, BRIM, 20), 8);
        due("pin fewer", x.pin(4, BRIM, 1), 20);
        due("pin as many", x.pin(4, BRIM, 1), 1);
        due("pins", x.pins(4, BRIM), 1);
        due("pin none", x.pin(4, VEIL, 3), NO);
        allBad("pin p", p -> x.pin(p, BRIM, 1), -1, 5, LEAST, MOST);
        allBad("pin t", t -> x.pin(4, t, 1), -1, 5, LEAST, MOST);
        allBad("pin n", n -> x.pin(4, BRIM, n), 0, 21, LEAST, MOST);
        due("acts", x.count(7), 3);
    }

    private static void pass() {
        TrimmedPeaks x = laid("p0,9;o0,0,3;o0,1,2;o0,2,4;w3;w2;");
        due("pass 1", x.pass(1), 1);
        due("as many pins as force hold", x.pins(0, VEIL), 2);
        due("fewer are gone", x.pins(0, BOW), 0);
        due("gone is not in the store", x.store(BOW), 2);
        due("guide is how it looked ahead", x.peak(0, 3), 7);
        due("pass 1 more", x.pass(1), 2);
        due("pins of the second year", x.pins(0, VEIL), 1);
        due("guide of the second year", x.peak(0, 3), 5);
        due("pass 2", x.pass(2), 4);
        due("guide ahead of the latest year", x.peak(0, 3), 0);
        allBad("pass", x::pass, 0, -1, 21, LEAST, MOST);
        due("pass 20", x.pass(20), 24);
        for (int year = 44; year <= 984; year += 20) {
            due("pass", x.pass(20), year);
        }
        due("pass beyond", x.pass(16), NO);
        due("pass to the end", x.pass(15), 999);
        due("pass at the end", x.pass(1), NO);
        due("pass bad at the end", x.pass(21), BAD);
        due("wind beyond", x.wind(2), 2);
        due("behind beyond", x.behind(20, 0), 0);
    }

    private static void goatsAndForce() {
        TrimmedPeaks still = laid("p0,9;o0,0,1;o0,1,2;w0;");
        still.pass(1);
        due("gone with no pin left", still.peak(0, 2), 2);
        TrimmedPeaks goats = laid("p3,9;o0,1,3;o0,2,5;o0,4,1;w1;");
        goats.pass(1);
        due("goats eat at the lowest", goats.pins(0, BOW), 1);
        due("goats leave the next", goats.pins(0, FEATHER), 4);
        due("wind first", goats.pins(0, LACE), 0);
        goats.pass(1);
        due("goats eat what is lowest behind the wind", goats.pins(0, FEATHER), 2);
        due("the lowest is gone", goats.pins(0, BOW), 0);
        TrimmedPeaks eaten = laid("p3,9;o0,0,2;w0;");
        eaten.pass(1);
        due("eaten up", eaten.peak(0, 2), 0);
        TrimmedPeaks kinds = laid("p1,9;p2,9;o0,0,6;o0,1,7;o1,0,2;o1,1,3;w5;");
        kinds.pass(1);
        due("windy: 2 more", kinds.peak(0, 2), 2);
        due("sheltered: 2 less", kinds.peak(1, 2), 2);
    }

    private static void undo() {
        TrimmedPeaks x = new TrimmedPeaks();
        x.put(0, LACE, 4);
        x.pass(3);
        x.pin(1, VEIL, 20);
        x.take(1, VEIL);
        due("undo take", x.undo(), 3);
        due("pins back", x.pins(1, VEIL), 20);
        due("store back", x.store(VEIL), 3);
        due("undo pin", x.undo(), 2);
        due("pins of before", x.pins(1, VEIL), 6);
        due("undo years", x.undo(), 1);
        due("year back", x.count(1), 0);
        due("guide back", x.peak(0, 3), 5);
        due("looks back", x.peak(0, 2), 21);
        due("undo put", x.undo(), 0);
        due("store back", x.store(LACE), 2);
        due("looks back", x.peak(0, 2), 5);
        due("undo none", x.undo(), NO);
        for (int n = 1; n <= 11; n++) {
            x.pin(0, VEIL, n);
        }
        due("eight can be", x.count(7), 8);
        for (int left = 7; left >= 0; left--) {
            due("undo of eight", x.undo(), left);
        }
        due("the ninth stays", x.pins(0, VEIL), 3);
        due("undo none", x.undo(), NO);
        x.put(0, VEIL, 3);
        x.pass(21);
        due("what could not be is no act", x.undo(), NO);
    }

    private static void alike() {
        TrimmedPeaks x = laid("p0,1;p0,1;p0,1;p0,1;o1,0,3;o3,0,3;");
        due("alike", x.alike(0), 2);
        due("first alike", x.alike(1), 2);
        x.put(0, LACE, 1);
        due("first alike", x.alike(1), 13);
        x.put(1, LACE, 1);
        due("alike none", x.alike(0), 0);
        due("first of none", x.alike(1), NONE);
        allBad("alike", x::alike, -1, 2, LEAST, MOST);
        due("all six alike", laid("p0,1;".repeat(6)).alike(0), 15);
        due("the first pair of six", laid("p0,1;".repeat(6)).alike(1), 1);
    }

    private static void known() {
        TrimmedPeaks x = new TrimmedPeaks();
        due("known itself", x.known(0), 0);
        due("known as the lowest", x.known(3), 0);
        x.take(0, FEATHER);
        due("known by guide, not looks", x.known(0), 3);
        x.take(3, FEATHER);
        due("known by none", x.known(0), NONE);
        due("lowest that looks so", x.known(1), 0);
        allBad("known", x::known, -1, 5, LEAST, MOST);
    }

    private static void behind() {
        TrimmedPeaks x = new TrimmedPeaks();
        due("behind 0", x.behind(0, 3), 5);
        due("behind 1", x.behind(1, 2), 2);
        due("behind 2", x.behind(2, 3), 4);
        due("behind 20", x.behind(20, 1), 0);
        due("nothing changes", x.count(1) + x.count(7), 0);
        due("pins stay", x.count(4), 37);
        allBad("behind n", n -> x.behind(n, 0), -1, 21, LEAST, MOST);
        allBad("behind p", p -> x.behind(0, p), -1, 5, LEAST, MOST);
    }

    private static void goes() {
        TrimmedPeaks x = laid("p0,1;p3,1;o0,0,20;o0,1,1;o1,0,20;o1,1,20;w0;");
        due("goes with its pins", x.goes(0, VEIL), 20);
        due("goes in a year", x.goes(0, BOW), 1);
        due("goes by goats", x.goes(1, VEIL), 10);
        due("goes by goats then", x.goes(1, BOW), 15);
        due("goes of none", x.goes(0, LACE), NO);
        due("nothing changes", x.count(1), 0);
        allBad("goes p", p -> x.goes(p, VEIL), -1, 2, LEAST, MOST);
        allBad("goes t", t -> x.goes(0, t), -1, 5, LEAST, MOST);
        x.pass(1);
        due("goes from now on", x.goes(0, VEIL), 19);
    }

    private static void hold() {
        TrimmedPeaks x = laid("p0,1;o0,0,3;o0,4,20;w2;w9;");
        due("hold 1", x.hold(1), 0);
        due("hold 2: 10 by the wind", x.hold(2), 7);
        due("hold 20: 28 by the wind", x.hold(20), 25 + 8);
        TrimmedPeaks goats = laid("p3,1;o0,1,5;o0,2,5;w0;");
        due("hold by goats: 7 and 4", goats.hold(3), 2);
        due("hold by goats: 41 and 21", goats.hold(20), 36 + 16);
        due("hold of none", laid("p0,1;w20;").hold(20), 0);
        due("more than enough is no help", laid("p0,1;o0,0,20;o0,1,1;w0;").hold(2), 2);
        due("from now on", yearOn(laid("p0,1;o0,0,20;w2;w20;")).hold(1), 1);
        allBad("hold", x::hold, 0, -1, 21, LEAST, MOST);
    }

    private static TrimmedPeaks yearOn(TrimmedPeaks x) {
        x.pass(1);
        return x;
    }

    private static void tell() {
        TrimmedPeaks x = laid("p0,1;p0,1;p0,1;o0,0,1;o0,3,1;o1,0,1;o1,4,1;o2,3,1;");
        due("tell", x.tell(0), 2);
        due("tell the lowest", x.tell(1), 9);
        TrimmedPeaks one = laid("p0,1;");
        due("tell one", one.tell(0), 0);
        due("tell one by", one.tell(1), 0);
        TrimmedPeaks few = laid("p0,1;p0,1;o0,0,1;o1,0,1;o1,1,1;o1,4,1;");
        due("tell fewest", few.tell(0), 1);
        due("tell fewest, lowest", few.tell(1), 2);
        TrimmedPeaks all = laid("p0,1;".repeat(6) + "o1,0,1;o2,1,1;o3,2,1;o4,3,1;o5,4,1;");
        due("tell by all", all.tell(0), 5);
        due("tell by all five", all.tell(1), 31);
        due("tell none", laid("p0,1;p0,1;").tell(0), NONE);
        due("tell none by", laid("p0,1;p0,1;").tell(1), NONE);
        allBad("tell", x::tell, -1, 2, LEAST, MOST);
    }

    private static void add() {
        TrimmedPeaks none = laid("p0,1;p0,1;o0,0,1;");
        due("add none", none.add(-1), 0);
        due("first of none", none.add(0), NONE);
        TrimmedPeaks one = laid("p0,1;p0,1;o0,0,1;o1,0,1;s1,0;");
        due("add one", one.add(-1), 1);
        due("add: on and out of store are skipped", one.add(0), 2);
        due("second of one", one.add(1), NONE);
        TrimmedPeaks two = laid("p0,1;p0,1;p0,1;s0,1;s1,0;s2,0;s3,1;s4,0;");
        due("add two", two.add(-1), 2);
        due("first of two", two.add(0), 0);
        due("second of two", two.add(1), 13);
        TrimmedPeaks both = laid("p0,1;p0,1;p0,1;p0,1;o2,1,1;o3,1,1;s0,2;s1,0;s2,0;s3,0;s4,0;");
        due("both of one kind", both.add(-1), 2);
        due("both of one kind, first", both.add(0), 0);
        due("both of one kind, second", both.add(1), 20);
        TrimmedPeaks short1 = laid("p0,1;p0,1;p0,1;p0,1;o2,1,1;o3,1,1;s0,1;s1,0;s2,0;s3,0;s4,0;");
        due("one for two", short1.add(-1), NONE);
        due("one for two, first", short1.add(0), NONE);
        TrimmedPeaks lone = laid("p0,1;p0,1;o0,1,1;o1,1,1;o0,4,1;o1,4,1;o0,0,1;o1,0,1;o0,2,1;o1,2,1;s3,1;");
        due("the only one", lone.add(0), 3);
        TrimmedPeaks last = laid("p0,1;p0,1;p0,1;o0,0,1;o1,4,1;o2,4,1;s0,0;s1,0;s2,0;s3,0;s4,9;");
        due("what is on can't be put on", last.add(-1), NONE);
        TrimmedPeaks next = laid("p0,1;p0,1;p0,1;p0,1;o2,4,1;o3,4,1;s2,0;s3,0;s4,0;s0,1;s1,1;");
        due("two kinds, first", next.add(0), 0);
        due("two kinds, second", next.add(1), 21);
        TrimmedPeaks beside = laid("p0,1;p0,1;p0,1;o1,0,1;o1,1,1;o2,0,1;o2,1,1;s0,1;s1,1;s2,0;s3,0;s4,0;");
        due("nothing for the pair that is left", beside.add(-1), NONE);
        due("the very first place", laid("p0,1;p0,1;").add(0), 0);
        due("the last trimming", laid("p0,1;p0,1;p0,1;o0,0,1;s0,0;s1,0;s2,0;s3,0;").add(0), 14);
        TrimmedPeaks same = laid("p0,1;p0,1;p0,1;p0,1;o2,0,1;o3,1,1;s0,1;s1,1;s2,0;s3,0;s4,0;");
        due("both on one peak", same.add(-1), 2);
        due("both on one peak, first", same.add(0), 0);
        due("both on one peak, second", same.add(1), 1);
        due("three are too many", laid("p0,1;".repeat(4)).add(-1), NONE);
        due("nothing changes", two.count(2) + two.count(7), 0);
        allBad("add", two::add, -2, 2, LEAST, MOST);
    }

    private static void say() {
        TrimmedPeaks x = new TrimmedPeaks();
        allBad("say t", t -> x.say(t, 1), -1, 5, LEAST, MOST);
        allBad("say is", is -> x.say(0, is), -1, 2, LEAST, MOST);
        for (int i = 1; i <= 6; i++) {
            due("say", x.say(VEIL, 1), i);
        }
        due("say full", x.say(BOW, 0), FULL);
        due("say bad when full", x.say(5, 0), BAD);
        due("not said when full", x.which(), 11);
        due("said", x.count(6), 6);
    }

    private static void forget() {
        TrimmedPeaks x = new TrimmedPeaks();
        due("forget none", x.forget(), 0);
        x.say(VEIL, 1);
        x.say(VEIL, 0);
        due("which none", x.which(), 0);
        due("forget", x.forget(), 2);
        due("which all", x.which(), 31);
        due("ask all", x.ask(0), 0);
        due("said none", x.count(6), 0);
    }

    private static void which() {
        TrimmedPeaks x = new TrimmedPeaks();
        x.say(FEATHER, 0);
        due("which without", x.which(), 2 + 4 + 16);
        x.say(VEIL, 1);
        due("which with, too", x.which(), 2);
        x.put(4, VEIL, 1);
        due("which as it is now", x.which(), 18);
        x.take(1, VEIL);
        due("which behind a take", x.which(), 16);
    }

    private static void ask() {
        TrimmedPeaks x = laid("p0,1;p0,1;p0,1;p0,1;o0,1,1;o0,3,1;o1,3,1;o0,4,1;o2,4,1;");
        due("ask", x.ask(0), BRIM);
        due("ask how many", x.ask(1), 2);
        x.say(BRIM, 0);
        due("ask next", x.ask(0), LACE);
        due("ask next, how many", x.ask(1), 1);
        x.say(LACE, 0);
        due("ask though one is left", x.ask(0), VEIL);
        due("ask though one is left, how many", x.ask(1), 1);
        x.say(VEIL, 0);
        x.say(BOW, 0);
        due("ask the last", x.ask(0), FEATHER);
        x.say(FEATHER, 0);
        due("all said", x.ask(0), NONE);
        due("all said, one is left", x.which(), 8);
        allBad("ask", x::ask, -1, 2, LEAST, MOST);
        TrimmedPeaks y = new TrimmedPeaks();
        y.say(LACE, 1);
        due("ask of none", y.ask(0), NONE);
        due("ask of none, how many", y.ask(1), NONE);
        due("ask of none, bad", y.ask(2), BAD);
    }

    private static void match() {
        TrimmedPeaks x = laid("p0,1;p0,1;p0,1;o0,0,9;o0,1,9;o1,0,9;o2,1,9;w0;");
        due("match", x.match(-1), 1);
        x.take(0, BOW);
        due("match more", x.match(-1), 2);
        due("first way 0", x.match(0), 0);
        due("first way 1", x.match(1), 1);
        due("first way 2", x.match(2), 2);
        x.put(1, BOW, 3);
        due("match moved", x.match(-1), 1);
        due("moved 0", x.match(0), 1);
        due("moved 1", x.match(1), 0);
        due("moved 2", x.match(2), 2);
        x.put(2, LACE, 3);
        due("no way", x.match(-1), 0);
        due("no way for a peak", x.match(0), NONE);
        allBad("match", x::match, -2, 3, 6, LEAST, MOST);
        due("all ways of six", laid("p0,1;".repeat(6)).match(-1), 720);
        TrimmedPeaks greedy = laid("p0,1;p0,1;o0,0,9;o1,1,9;");
        greedy.take(0, VEIL);
        greedy.take(1, BOW);
        greedy.put(1, VEIL, 2);
        due("the lowest guide that leaves a way", greedy.match(0), 1);
        due("whose the other is", greedy.match(1), 0);
    }

    private static void chance(TrimmedPeaks x, int p, int t, int n, int chance, int above, int below) {
        due("storms above " + n + " " + chance, x.storms(p, t, n, chance, 0), above);
        due("storms below " + n + " " + chance, x.storms(p, t, n, chance, 1), below);
    }

    private static void storms() {
        TrimmedPeaks x = laid("p0,1;p2,1;p1,1;o0,0,19;o0,1,20;o1,0,20;o2,0,20;w0;");
        chance(x, 0, 0, 0, 10, 1, 1);
        chance(x, 0, 0, 1, 3, 7, 10);
        chance(x, 0, 0, 2, 3, 49, 100);
        chance(x, 0, 0, 8, 5, 1, 256);
        chance(x, 0, 0, 8, 10, 0, 1);
        chance(x, 0, 0, 8, 0, 1, 1);
        chance(x, 0, 0, 8, 3, 5764801, 100000000);
        chance(x, 0, 1, 1, 10, 1, 1);
        chance(x, 0, 1, 2, 10, 0, 1);
        chance(x, 0, 1, 2, 4, 3, 5);
        chance(x, 1, 0, 3, 10, 1, 1);
        chance(x, 1, 0, 4, 5, 1, 2);
        chance(x, 2, 0, 1, 5, 1, 2);
        chance(x, 2, 4, 3, 5, 0, 1);
        chance(x, 2, 4, 0, 5, 0, 1);
        due("nothing changes", x.count(1) + x.count(7), 0);
        TrimmedPeaks goats = laid("p3,1;o0,0,5;o0,1,20;w0;");
        chance(goats, 0, 1, 2, 5, 1, 2);
        chance(goats, 0, 0, 2, 5, 1, 4);
        chance(goats, 0, 0, 3, 0, 0, 1);
        chance(laid("p0,1;o0,0,9;w0;w0;w8;"), 0, 0, 3, 0, 0, 1);
        chance(laid("p0,1;o0,0,9;w0;w8;w0;"), 0, 0, 3, 0, 1, 1);
        TrimmedPeaks later = yearOn(laid("p0,1;o0,0,9;w0;w9;"));
        chance(later, 0, 0, 1, 1, 0, 1);
        allBad("storms p", p -> x.storms(p, 0, 1, 1, 0), -1, 3, LEAST, MOST);
        allBad("storms t", t -> x.storms(0, t, 1, 1, 0), -1, 5, LEAST, MOST);
        allBad("storms n", n -> x.storms(0, 0, n, 1, 0), -1, 9, LEAST, MOST);
        allBad("storms x", chance -> x.storms(0, 0, 1, chance, 0), -1, 11, LEAST, MOST);
        allBad("storms part", part -> x.storms(0, 0, 1, 1, part), -1, 2, LEAST, MOST);
    }

    private static void century() {
        TrimmedPeaks x = laid("p0,1;p0,1;w0;");
        // z 0: x is 1, the draw 1: a veil on peak 0 with 1 pin
        due("draw 1 puts on with 1 pin, gone in the year", x.century(0, 1, 0), 0);
        due("draw 1, alike", x.century(0, 1, 1), 1);
        // z 10: x is 79191, the draw 3008: a feather on peak 0 with 6 pins
        due("draw 3008 puts on", laid("p0,1;p0,1;w6;").century(10, 1, 0), 1);
        due("draw 3008 tells apart", laid("p0,1;p0,1;w6;").century(10, 1, 1), 0);
        due("draw 3008, 6 pins", laid("p0,1;p0,1;w7;").century(10, 1, 0), 0);
        due("draw 3008, none in the store", laid("p0,1;p0,1;s2,0;w6;").century(10, 1, 0), 0);
        due("draw 3008, it is on", laid("p0,1;p0,1;o0,2,2;w6;").century(10, 1, 0), 0);
        // z 1: x is 7920, the draw 22803: the bow of peak 0 is taken off
        TrimmedPeaks taken = laid("p0,1;p0,1;o0,1,9;o1,1,9;w0;");
        due("draw 22803 takes off", taken.century(1, 1, 0), 1);
        due("draw 22803 tells apart", taken.century(1, 1, 1), 0);
        due("nothing changes", taken.count(2) * 100 + taken.count(7) * 10 + taken.count(1), 200);
        // z 15: x is 118786, the draw 35404: the brim of peak 1 is pinned with 7
        due("draw 35404 pins better", laid("p0,1;p0,1;o1,3,1;w7;").century(15, 1, 0), 1);
        due("draw 35404, 7 pins", laid("p0,1;p0,1;o1,3,20;w8;").century(15, 1, 0), 0);
        due("draw 35404, it is not on", laid("p0,1;p0,1;w0;").century(15, 1, 0), 0);
        // z 2: x is 15839, 21990: the draws 59533 (nothing), 15120: a bow on peak 0 with 3 pins
        due("the second draw", laid("p0,1;p0,1;w4;w3;").century(2, 2, 0), 1);
        due("the second draw, 3 pins", laid("p0,1;p0,1;w4;w4;").century(2, 2, 0), 0);
        due("the first draw alone", laid("p0,1;p0,1;w4;w3;").century(2, 1, 0), 0);
        // z 7: x is 55434, the draw 58977: a bow with 8 pins on peak 0 of two, on peak 1 of three
        due("draw 58977, 8 pins", laid("p0,1;p0,1;w8;").century(7, 1, 0), 1);
        due("draw 58977, of two", laid("p0,1;p0,1;o0,1,20;w0;").century(7, 1, 0), 1);
        due("draw 58977, of three", laid("p0,1;p0,1;p0,1;o1,1,20;w0;").century(7, 1, 0), 1);
        // z 20: x is 158381, the draw 22874, 2 modulo 8: a feather on peak 1 with 9 pins
        due("draw 22874 puts on", laid("p0,1;p0,1;w9;").century(20, 1, 0), 1);
        due("draw 22803 never puts on", laid("p0,1;p0,1;w0;").century(1, 1, 0), 0);
        due("the last z and the longest", laid("p0,1;w20;").century(9999, 60, 0), 0);
        due("from now on", yearOn(laid("p0,1;p0,1;w0;w6;")).century(10, 1, 0), 1);
        due("from now on, in wind", yearOn(laid("p0,1;p0,1;w0;w7;")).century(10, 1, 0), 0);
        allBad("century z", z -> x.century(z, 1, 0), -1, 10000, LEAST, MOST);
        allBad("century n", n -> x.century(0, n, 0), 0, -1, 61, LEAST, MOST);
        allBad("century what", what -> x.century(0, 1, what), -1, 2, LEAST, MOST);
    }

    private static void keep() {
        TrimmedPeaks x = new TrimmedPeaks();
        x.take(0, VEIL);
        due("keep", x.keep(), 1);
        due("keep leaves what can be undone", x.count(7), 1);
        due("keep 2", x.keep(), 2);
        due("keep full", x.keep(), FULL);
        due("kept", x.count(8), 2);
        due("back", x.back(), 1);
        due("keep again", x.keep(), 2);
    }

    private static void back() {
        TrimmedPeaks x = new TrimmedPeaks();
        x.pass(1);
        x.keep();
        x.take(0, VEIL);
        x.keep();
        x.pass(5);
        x.say(VEIL, 1);
        x.write('p');
        due("back", x.back(), 1);
        due("year as kept", x.count(1), 1);
        due("looks as kept", x.peak(0, 2), 4);
        due("guide as kept", x.peak(0, 3), 5);
        due("store as kept", x.store(VEIL), 4);
        due("nothing to undo", x.undo(), NO);
        due("said stays", x.count(6), 1);
        due("text stays", x.count(9), 1);
        due("back 2", x.back(), 0);
        due("looks as kept first", x.peak(0, 2), 5);
        due("store as kept first", x.store(VEIL), 3);
        x.take(0, VEIL);
        due("back none", x.back(), NO);
        due("undo stays when there is none", x.count(7), 1);
    }

    private static void count() {
        TrimmedPeaks x = laid("p0,1;p0,1;p0,1;o0,0,9;o1,0,9;o2,4,2;s0,9;w3;");
        x.pass(1);
        x.pin(0, VEIL, 20);
        x.say(VEIL, 1);
        x.keep();
        int[] counts = {3, 1, 2, 9 + 8, 28, 1, 1, 2, 1, 44};
        for (int i = 0; i < counts.length; i++) {
            due("count " + i, x.count(i), counts[i]);
        }
        allBad("count", x::count, -1, 10, LEAST, MOST);
    }

    private static void firstOfSeveralWrongs() {
        TrimmedPeaks x = new TrimmedPeaks();
        due("put: on, and pins none", x.put(0, VEIL, 0), BAD);
        due("pin: not on, and pins none", x.pin(0, LACE, 21), BAD);
        due("goes: not on, and no such peak", x.goes(5, LACE), BAD);
        due("tell: none, and no such", x.tell(2), BAD);
    }
}
