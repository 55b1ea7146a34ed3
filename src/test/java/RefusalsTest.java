import java.util.function.Supplier;
import java.util.function.ToIntFunction;

/**
 * BAD, NO, NONE, FULL: of several the first in this order, whatever the order at a call; nothing changes then.
 * Each call is made on one of two twins, and both are looked at then, and behind every undo() and back().
 */
public final class RefusalsTest extends Checks {
    private static final String TEXT = "p0,2;p3,1;s2,1;s4,0;o0,0,9;o1,1,9;w2;w1;";

    public static void main(String[] args) {
        sentence("BAD: nothing changes", RefusalsTest::badChangesNothing);
        sentence("NO: nothing changes", RefusalsTest::noChangesNothing);
        sentence("NO at the last YEAR: nothing changes", RefusalsTest::noAtTheLastYear);
        sentence("NO of none KEPT, UNDONE, LAID: nothing changes", RefusalsTest::noOfNone);
        sentence("NONE: nothing changes", RefusalsTest::noneChangesNothing);
        sentence("FULL: nothing changes", RefusalsTest::fullChangesNothing);
        sentence("what only looks changes nothing", RefusalsTest::looksChangeNothing);
        sentence("BAD ahead of NO", RefusalsTest::badAheadOfNo);
        sentence("BAD ahead of NONE", RefusalsTest::badAheadOfNone);
        sentence("BAD ahead of FULL", RefusalsTest::badAheadOfFull);
        sentence("BAD: wherever it stands at a call", RefusalsTest::badWhereverItStands);
        end("RefusalsTest");
    }

    /** Eight acts that can be undone, two kept, four said, a text behind that is no longer what is laid. */
    private static TrimmedPeaks busy() {
        TrimmedPeaks x = laid(TEXT);
        x.write('w');
        x.pin(0, VEIL, 20);
        x.put(1, FEATHER, 15);
        x.keep();
        x.pass(1);
        x.put(0, BRIM, 6);
        x.take(1, BOW);
        x.put(0, BOW, 3);
        x.keep();
        x.pass(2);
        x.pin(1, FEATHER, 4);
        for (int t = 0; t < 4; t++) {
            x.say(t, t % 3 == 0 ? 1 : 0);
        }
        return x;
    }

    private static TrimmedPeaks busyInTheLastYear() {
        TrimmedPeaks x = inYear(laid(TEXT), 998);
        x.put(1, FEATHER, 15);
        x.pass(1);
        x.keep();
        x.put(0, VEIL, 20);
        return x;
    }

    private static TrimmedPeaks untouched() {
        return laid(TEXT);
    }

    private static TrimmedPeaks withFault() {
        TrimmedPeaks x = laid(TEXT);
        x.write('q');
        x.take(0, VEIL);
        return x;
    }

    private static TrimmedPeaks withoutPeaks() {
        TrimmedPeaks x = laid(TEXT);
        x.wipe();
        x.write('w');
        x.write('9');
        x.write(';');
        x.take(0, VEIL);
        return x;
    }

    /** Four alike, of which all is said, with no way for their guides. */
    private static TrimmedPeaks alikeAndAllSaid() {
        TrimmedPeaks x = laid("p0,1;p0,1;p0,1;p0,1;s0,4;");
        for (int p = 0; p < 4; p++) {
            x.put(p, VEIL, 9);
        }
        for (int t = 0; t < 5; t++) {
            x.say(t, t == VEIL ? 1 : 0);
        }
        return x;
    }

    private static TrimmedPeaks apart() {
        TrimmedPeaks x = laid("p0,1;p0,1;o0,0,9;");
        x.say(LACE, 1);
        return x;
    }

    private static TrimmedPeaks fullOfAll() {
        TrimmedPeaks x = laid("p0,1;o0,0,9;" + "s0,1;".repeat(37) + "w1;");
        x.pin(0, VEIL, 3);
        x.keep();
        x.pin(0, VEIL, 4);
        x.keep();
        for (int i = 0; i < 6; i++) {
            x.say(i % 5, 0);
        }
        return x;
    }

    private static void refused(String what, Supplier<TrimmedPeaks> stand, ToIntFunction<TrimmedPeaks> call, int want) {
        TrimmedPeaks x = stand.get();
        due(what, call.applyAsInt(x), want);
        sameAsTwin(what, x, stand.get());
    }

    private static void unchanged(String what, Supplier<TrimmedPeaks> stand, ToIntFunction<TrimmedPeaks> call) {
        TrimmedPeaks x = stand.get();
        int first = call.applyAsInt(x);
        due(what + " again", call.applyAsInt(x), first);
        sameAsTwin(what, x, stand.get());
    }

    /** Until nothing more can be undone, then until nothing more is kept, then laid anew by the text. */
    private static void sameAsTwin(String what, TrimmedPeaks x, TrimmedPeaks twin) {
        sameNow(what, x, twin);
        int acts = twin.count(7);
        for (int i = 0; i <= acts; i++) {
            due(what + ", undo behind it", x.undo(), twin.undo());
            sameRange(what + ", undone", x, twin);
        }
        int kept = twin.count(8);
        for (int i = 0; i <= kept; i++) {
            due(what + ", back behind it", x.back(), twin.back());
            sameRange(what + ", back", x, twin);
        }
        due(what + ", forget behind it", x.forget(), twin.forget());
        due(what + ", lay behind it", x.lay(), twin.lay());
        sameRange(what + ", laid", x, twin);
        due(what + ", wipe behind it", x.wipe(), twin.wipe());
    }

    private static void sameNow(String what, TrimmedPeaks x, TrimmedPeaks twin) {
        sameRange(what, x, twin);
        for (int i = 0; i < 10; i++) {
            due(what + ", count " + i, x.count(i), twin.count(i));
        }
        due(what + ", which", x.which(), twin.which());
        due(what + ", ask", x.ask(0), twin.ask(0));
        due(what + ", fault", x.fault(), twin.fault());
        due(what + ", wind", x.wind(0), twin.wind(0));
    }

    private static void sameRange(String what, TrimmedPeaks x, TrimmedPeaks twin) {
        due(what + ", year", x.count(1), twin.count(1));
        for (int p = 0; p < Math.min(2, twin.count(0)); p++) {
            due(what + ", guide of " + p, x.peak(p, 3), twin.peak(p, 3));
            for (int t = 0; t < 5; t++) {
                due(what + ", pins of " + t + " on " + p, x.pins(p, t), twin.pins(p, t));
            }
        }
        for (int t = 0; t < 5; t++) {
            due(what + ", store of " + t, x.store(t), twin.store(t));
        }
    }

    private static void badChangesNothing() {
        for (int wrong : new int[] {-2, 2, LEAST, MOST}) {
            refused("peak(" + wrong + ", 0)", RefusalsTest::busy, x -> x.peak(wrong, 0), BAD);
            refused("pins(" + wrong + ", 0)", RefusalsTest::busy, x -> x.pins(wrong, VEIL), BAD);
            refused("put(" + wrong + ", 1, 1)", RefusalsTest::busy, x -> x.put(wrong, BOW, 1), BAD);
            refused("take(" + wrong + ", 0)", RefusalsTest::busy, x -> x.take(wrong, VEIL), BAD);
            refused("pin(" + wrong + ", 0, 1)", RefusalsTest::busy, x -> x.pin(wrong, VEIL, 1), BAD);
            refused("known(" + wrong + ")", RefusalsTest::busy, x -> x.known(wrong), BAD);
            refused("behind(1, " + wrong + ")", RefusalsTest::busy, x -> x.behind(1, wrong), BAD);
            refused("goes(" + wrong + ", 0)", RefusalsTest::busy, x -> x.goes(wrong, VEIL), BAD);
            refused("alike(" + wrong + ")", RefusalsTest::busy, x -> x.alike(wrong), BAD);
            refused("tell(" + wrong + ")", RefusalsTest::busy, x -> x.tell(wrong), BAD);
            refused("add(" + wrong + ")", RefusalsTest::busy, x -> x.add(wrong), BAD);
            refused("say(0, " + wrong + ")", RefusalsTest::busy, x -> x.say(VEIL, wrong), BAD);
            refused("ask(" + wrong + ")", RefusalsTest::busy, x -> x.ask(wrong), BAD);
            refused("match(" + wrong + ")", RefusalsTest::busy, x -> x.match(wrong), BAD);
            refused("storms(" + wrong + ", ..)", RefusalsTest::busy, x -> x.storms(wrong, VEIL, 1, 1, 0), BAD);
        }
        for (int wrong : new int[] {-1, 127, LEAST, MOST}) {
            refused("write(" + wrong + ")", RefusalsTest::busy, x -> x.write(wrong), BAD);
            refused("store(" + wrong + ")", RefusalsTest::busy, x -> x.store(wrong), BAD);
            refused("wind(" + wrong + ")", RefusalsTest::busy, x -> x.wind(wrong), BAD);
            refused("put(0, " + wrong + ", 1)", RefusalsTest::busy, x -> x.put(0, wrong, 1), BAD);
            refused("put(1, 1, " + wrong + ")", RefusalsTest::busy, x -> x.put(1, BOW, wrong), BAD);
            refused("take(0, " + wrong + ")", RefusalsTest::busy, x -> x.take(0, wrong), BAD);
            refused("pin(0, " + wrong + ", 1)", RefusalsTest::busy, x -> x.pin(0, wrong, 1), BAD);
            refused("pin(0, 0, " + wrong + ")", RefusalsTest::busy, x -> x.pin(0, VEIL, wrong), BAD);
            refused("pass(" + wrong + ")", RefusalsTest::busy, x -> x.pass(wrong), BAD);
            refused("behind(" + wrong + ", 0)", RefusalsTest::busy, x -> x.behind(wrong, 0), BAD);
            refused("hold(" + wrong + ")", RefusalsTest::busy, x -> x.hold(wrong), BAD);
            refused("say(" + wrong + ", 1)", RefusalsTest::busy, x -> x.say(wrong, 1), BAD);
            refused("storms(0, 0, " + wrong + ", ..)", RefusalsTest::busy, x -> x.storms(0, VEIL, wrong, 1, 0), BAD);
            refused("century(1, " + wrong + ", 0)", RefusalsTest::busy, x -> x.century(1, wrong, 0), BAD);
            refused("count(" + wrong + ")", RefusalsTest::busy, x -> x.count(wrong), BAD);
        }
        for (int wrong : new int[] {-1, 10000, LEAST, MOST}) {
            refused("century(" + wrong + ", 1, 0)", RefusalsTest::busy, x -> x.century(wrong, 1, 0), BAD);
        }
    }

    private static void noChangesNothing() {
        refused("put where it is on", RefusalsTest::busy, x -> x.put(0, VEIL, 1), NO);
        refused("put of none in store", RefusalsTest::busy, x -> x.put(1, LACE, 1), NO);
        refused("put of the last, which is on", RefusalsTest::busy, x -> x.put(0, FEATHER, 1), NO);
        refused("take of none", RefusalsTest::busy, x -> x.take(0, LACE), NO);
        refused("take of what was taken", RefusalsTest::busy, x -> x.take(1, BOW), NO);
        refused("pin of none", RefusalsTest::busy, x -> x.pin(0, LACE, 5), NO);
        refused("goes of none", RefusalsTest::busy, x -> x.goes(0, LACE), NO);
        refused("lay of a text with a fault", RefusalsTest::busy, TrimmedPeaks::lay, NO);
    }

    private static void noAtTheLastYear() {
        for (int n = 1; n <= 20; n++) {
            int years = n;
            refused("pass(" + n + ")", RefusalsTest::busyInTheLastYear, x -> x.pass(years), NO);
        }
    }

    private static void noOfNone() {
        refused("undo of none", RefusalsTest::untouched, TrimmedPeaks::undo, NO);
        refused("back of none", RefusalsTest::untouched, TrimmedPeaks::back, NO);
        refused("back of none behind an act", RefusalsTest::withFault, TrimmedPeaks::back, NO);
        refused("lay with a fault", RefusalsTest::withFault, TrimmedPeaks::lay, NO);
        refused("lay without a peak", RefusalsTest::withoutPeaks, TrimmedPeaks::lay, NO);
    }

    private static void noneChangesNothing() {
        refused("tell(0)", RefusalsTest::alikeAndAllSaid, x -> x.tell(0), NONE);
        refused("tell(1)", RefusalsTest::alikeAndAllSaid, x -> x.tell(1), NONE);
        for (int k = -1; k <= 1; k++) {
            int which = k;
            refused("add(" + k + ")", RefusalsTest::alikeAndAllSaid, x -> x.add(which), NONE);
        }
        refused("ask(0)", RefusalsTest::alikeAndAllSaid, x -> x.ask(0), NONE);
        refused("ask(1)", RefusalsTest::alikeAndAllSaid, x -> x.ask(1), NONE);
        refused("match(0)", RefusalsTest::alikeAndAllSaid, x -> x.match(0), NONE);
        refused("match(3)", RefusalsTest::alikeAndAllSaid, x -> x.match(3), NONE);
        refused("known(0)", RefusalsTest::alikeAndAllSaid, x -> x.known(0), NONE);
        refused("fault()", RefusalsTest::alikeAndAllSaid, TrimmedPeaks::fault, NONE);
        refused("alike(1)", RefusalsTest::apart, x -> x.alike(1), NONE);
        refused("add(0) of none", RefusalsTest::apart, x -> x.add(0), NONE);
        refused("ask(0), which is none", RefusalsTest::apart, x -> x.ask(0), NONE);
    }

    private static void fullChangesNothing() {
        refused("write when full", RefusalsTest::fullOfAll, x -> x.write('q'), FULL);
        refused("say when full", RefusalsTest::fullOfAll, x -> x.say(VEIL, 1), FULL);
        refused("keep when full", RefusalsTest::fullOfAll, TrimmedPeaks::keep, FULL);
        refused("keep when full, behind other acts", RefusalsTest::busy, TrimmedPeaks::keep, FULL);
    }

    private static void looksChangeNothing() {
        for (int i = 0; i < 6; i++) {
            int what = i;
            unchanged("peak " + i, RefusalsTest::busy, x -> x.peak(0, what));
        }
        for (int i = 0; i < 10; i++) {
            int what = i;
            unchanged("count " + i, RefusalsTest::busy, x -> x.count(what));
        }
        for (int i = 0; i < 2; i++) {
            int what = i;
            unchanged("alike " + i, RefusalsTest::busy, x -> x.alike(what));
            unchanged("known " + i, RefusalsTest::busy, x -> x.known(what));
            unchanged("tell " + i, RefusalsTest::busy, x -> x.tell(what));
            unchanged("add " + i, RefusalsTest::busy, x -> x.add(what));
            unchanged("add two " + i, () -> laid("p0,1;p0,1;p0,1;"), x -> x.add(what));
            unchanged("ask " + i, RefusalsTest::busy, x -> x.ask(what));
            unchanged("match " + i, RefusalsTest::busy, x -> x.match(what));
            unchanged("storms " + i, RefusalsTest::busy, x -> x.storms(1, FEATHER, 8, 5, what));
            unchanged("century " + i, RefusalsTest::busy, x -> x.century(4321, 60, what));
        }
        unchanged("match -1", RefusalsTest::busy, x -> x.match(-1));
        unchanged("add -1", RefusalsTest::busy, x -> x.add(-1));
        unchanged("behind", RefusalsTest::busy, x -> x.behind(20, 0));
        unchanged("goes", RefusalsTest::busy, x -> x.goes(0, VEIL));
        unchanged("hold", RefusalsTest::busy, x -> x.hold(20));
        unchanged("pins", RefusalsTest::busy, x -> x.pins(0, VEIL));
        unchanged("store", RefusalsTest::busy, x -> x.store(VEIL));
        unchanged("wind", RefusalsTest::busy, x -> x.wind(99));
        unchanged("which", RefusalsTest::busy, TrimmedPeaks::which);
        unchanged("fault", RefusalsTest::busy, TrimmedPeaks::fault);
        unchanged("fault of a text that is right", RefusalsTest::untouched, TrimmedPeaks::fault);
    }

    private static void badAheadOfNo() {
        refused("put where it is on, 0 pins", RefusalsTest::busy, x -> x.put(0, VEIL, 0), BAD);
        refused("put where it is on, 21 pins", RefusalsTest::busy, x -> x.put(0, VEIL, 21), BAD);
        refused("put of none in store, 21 pins", RefusalsTest::busy, x -> x.put(1, LACE, 21), BAD);
        refused("put of none in store on no peak", RefusalsTest::busy, x -> x.put(2, LACE, 1), BAD);
        refused("take of none on no peak", RefusalsTest::busy, x -> x.take(2, LACE), BAD);
        refused("pin of none, 0 pins", RefusalsTest::busy, x -> x.pin(0, LACE, 0), BAD);
        refused("pin of none, 21 pins", RefusalsTest::busy, x -> x.pin(0, LACE, 21), BAD);
        refused("pin of none on no peak", RefusalsTest::busy, x -> x.pin(2, LACE, 1), BAD);
        refused("goes of none on no peak", RefusalsTest::busy, x -> x.goes(2, LACE), BAD);
        refused("goes of no trimming", RefusalsTest::busy, x -> x.goes(0, 5), BAD);
        refused("pass 0 in the last year", RefusalsTest::busyInTheLastYear, x -> x.pass(0), BAD);
        refused("pass 21 in the last year", RefusalsTest::busyInTheLastYear, x -> x.pass(21), BAD);
        refused("pass so many that they are few again", RefusalsTest::busyInTheLastYear, x -> x.pass(MOST), BAD);
    }

    private static void badAheadOfNone() {
        refused("tell(2), none", RefusalsTest::alikeAndAllSaid, x -> x.tell(2), BAD);
        refused("tell(-1), none", RefusalsTest::alikeAndAllSaid, x -> x.tell(-1), BAD);
        refused("add(2), none", RefusalsTest::alikeAndAllSaid, x -> x.add(2), BAD);
        refused("add(-2), none", RefusalsTest::alikeAndAllSaid, x -> x.add(-2), BAD);
        refused("add(2), not so many", RefusalsTest::apart, x -> x.add(2), BAD);
        refused("ask(2), all said", RefusalsTest::alikeAndAllSaid, x -> x.ask(2), BAD);
        refused("ask(-1), which is none", RefusalsTest::apart, x -> x.ask(-1), BAD);
        refused("match(4), no way", RefusalsTest::alikeAndAllSaid, x -> x.match(4), BAD);
        refused("match(-2), no way", RefusalsTest::alikeAndAllSaid, x -> x.match(-2), BAD);
        refused("known(4), none", RefusalsTest::alikeAndAllSaid, x -> x.known(4), BAD);
        refused("alike(2), none", RefusalsTest::apart, x -> x.alike(2), BAD);
        refused("alike(-1), none", RefusalsTest::apart, x -> x.alike(-1), BAD);
    }

    private static void badAheadOfFull() {
        refused("write(31) when full", RefusalsTest::fullOfAll, x -> x.write(31), BAD);
        refused("write(127) when full", RefusalsTest::fullOfAll, x -> x.write(127), BAD);
        refused("say(5, 0) when full", RefusalsTest::fullOfAll, x -> x.say(5, 0), BAD);
        refused("say(-1, 0) when full", RefusalsTest::fullOfAll, x -> x.say(-1, 0), BAD);
        refused("say(0, 2) when full", RefusalsTest::fullOfAll, x -> x.say(0, 2), BAD);
    }

    /** Every choice of right and wrong numbers but the one that is all right. */
    private static void badWhereverItStands() {
        TrimmedPeaks x = laid("p0,1;p0,1;o0,0,9;");
        for (int wrong = 1; wrong < 32; wrong++) {
            int p = (wrong & 1) == 0 ? 0 : 2;
            int t = (wrong & 2) == 0 ? 0 : 5;
            int n = (wrong & 4) == 0 ? 1 : 61;
            int last = (wrong & 8) == 0 ? 0 : 11;
            int part = (wrong & 16) == 0 ? 0 : 2;
            due("storms, wrong " + wrong, x.storms(p, t, n, last, part), BAD);
            if (wrong < 8) {
                due("put, wrong " + wrong, x.put(p, t, n), BAD);
                due("pin, wrong " + wrong, x.pin(p, t, n), BAD);
                due("century, wrong " + wrong, x.century(p == 0 ? 0 : -1, t == 0 ? 1 : 0, n == 1 ? 0 : 2), BAD);
            }
            if (wrong < 4) {
                due("peak, wrong " + wrong, x.peak(p, t == 0 ? 0 : 6), BAD);
                due("pins, wrong " + wrong, x.pins(p, t), BAD);
                due("take, wrong " + wrong, x.take(p, t), BAD);
                due("goes, wrong " + wrong, x.goes(p, t), BAD);
                due("behind, wrong " + wrong, x.behind(t == 0 ? 0 : 21, p), BAD);
                due("say, wrong " + wrong, x.say(t, p), BAD);
            }
        }
        due("all as it was", x.count(4) * 100 + x.count(6) * 10 + x.count(7), 900);
    }
}
