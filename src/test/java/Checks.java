import java.util.function.IntUnaryOperator;

/**
 * What the tests by hand share: a call's answer beside the one that is due, and ranges told in a text.
 * They extend it because names of a class without a package can't be imported.
 */
abstract class Checks {
    static final int BAD = -1, NO = -2, FULL = -3, NONE = -4;
    static final int VEIL = 0, BOW = 1, FEATHER = 2, BRIM = 3, LACE = 4;
    static final int LEAST = Integer.MIN_VALUE, MOST = Integer.MAX_VALUE;

    private static String sentence = "";
    private static int wrong = 0;

    /** A sentence of the document, and the test that would fail if it were broken. */
    static void sentence(String words, Runnable test) {
        sentence = words + ": ";
        try {
            test.run();
        } catch (RuntimeException thrown) {
            wrong++;
            System.out.println(sentence + "threw " + thrown);
        }
        sentence = "";
    }

    static void due(String what, int got, int want) {
        if (got != want) {
            wrong++;
            System.out.println(sentence + what + " answered " + got + ", due is " + want);
        }
    }

    static void allBad(String what, IntUnaryOperator call, int... numbers) {
        for (int number : numbers) {
            due(what + " of " + number, call.applyAsInt(number), BAD);
        }
    }

    /** Just beyond both bounds, and as far beyond them as numbers go. */
    static void badBeyond(String what, IntUnaryOperator call, int first, int last) {
        allBad(what, call, first - 1, last + 1, LEAST, MOST);
    }

    static TrimmedPeaks written(String text) {
        TrimmedPeaks x = new TrimmedPeaks();
        for (int i = 0; i < text.length(); i++) {
            due("write of " + text, x.write(text.charAt(i)), i + 1);
        }
        return x;
    }

    static TrimmedPeaks laid(String text) {
        TrimmedPeaks x = written(text);
        due("fault of " + text, x.fault(), NONE);
        due("lay of " + text, x.lay(), peaksOf(text));
        return x;
    }

    private static int peaksOf(String text) {
        return (int) text.chars().filter(letter -> letter == 'p').count();
    }

    static void faultOf(String text, int want) {
        due("fault of '" + text + "'", written(text).fault(), want);
        if (want != NONE) {
            due("lay of '" + text + "'", written(text).lay(), NO);
        }
    }

    /** From the year 0 on, in as few calls as can be. */
    static TrimmedPeaks inYear(TrimmedPeaks x, int year) {
        for (int left = year; left > 0; left -= 20) {
            int next = year - left + Math.min(20, left);
            due("pass to the year " + next, x.pass(Math.min(20, left)), next);
        }
        return x;
    }

    static void pinsAre(String what, TrimmedPeaks x, int p, int... pins) {
        for (int t = 0; t < pins.length; t++) {
            due(what + ", pins of trimming " + t + " on peak " + p, x.pins(p, t), pins[t]);
        }
    }

    static void end(String test) {
        System.out.println(test + (wrong == 0 ? ": all as due" : ": " + wrong + " wrong"));
        if (wrong != 0) {
            System.exit(1);
        }
    }
}
