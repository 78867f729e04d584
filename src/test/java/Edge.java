import java.io.IOException;
import java.nio.file.Files;
import java.nio.file.Path;
import java.util.Arrays;

/**
 * The document's sentences, and the checks that stand at the boundaries they name. Each test names
 * its sentence by says(), which fails if the document doesn't say it there; end() fails for each
 * sentence of the terms and of the promises that no test named.
 */
final class Edge {
    /** In place of a promise's number: what stands ahead of them. */
    static final int TERMS = 0;
    static final String ROD = "rod 2 thick 1 shrinks 0 price 0;";
    static final String BAND = "band 1 before 1 behind 1 rounds 1 from 0 with 0;";
    static final int FAR = Integer.MAX_VALUE;
    static final int DEEP = Integer.MIN_VALUE;

    private static final int PROMISES = 57;
    private static final Check CHECK = new Check("EdgeTest");
    private static final String[] SAID = new String[PROMISES + 1];
    private static final boolean[][] NAMED = new boolean[PROMISES + 1][];
    private static String now = "";

    private Edge() {
    }

    /** Takes the document's text apart by promises. */
    static void read() throws IOException {
        String doc = Files.readString(Path.of("../shared/DOC.md"));
        String uses = doc.substring(doc.indexOf("An object is used"), doc.indexOf("## The public face"));
        String terms = doc.substring(doc.indexOf("## Terms") + 8, doc.indexOf("## Promise 1:"));
        keep(TERMS, uses + terms.replaceAll("(?m)^Ahead of the calls.*$", "").replaceAll("==== \\d\\.", ""));
        for (int p = 1; p <= PROMISES; p++) {
            String text = doc.substring(doc.indexOf("## Promise " + p + ":"));
            text = text.substring(text.indexOf("\n") + 1);
            text = text.substring(0, text.indexOf("## "));
            keep(p, text.substring(text.indexOf("`: ") + 3));
        }
    }

    private static void keep(int promise, String text) {
        SAID[promise] = plain(text.replaceAll("```\\w*", ""));
        NAMED[promise] = new boolean[SAID[promise].length()];
    }

    private static String plain(String text) {
        return text.replace("`", "").replaceAll("\\s+", " ").trim();
    }

    /** The checks from here on are of this sentence. */
    static void says(int promise, String sentence) {
        now = (promise == TERMS ? "terms" : "promise " + promise) + ", \"" + sentence + "\"";
        String quote = plain(sentence);
        int at = SAID[promise].indexOf(quote);
        CHECK.is(now + " stands in the document", at < 0 ? 0 : 1, 1);
        for (; at >= 0; at = SAID[promise].indexOf(quote, at + 1)) {
            Arrays.fill(NAMED[promise], at, at + quote.length(), true);
        }
    }

    static void is(String what, long got, long want) {
        CHECK.is(now + ": " + what, got, want);
    }

    /** The same answer to all of them. */
    static void all(String what, long want, long... got) {
        for (int k = 0; k < got.length; k++) is(what + " (" + k + ")", got[k], want);
    }

    static void each(String what, long[] got, long... want) {
        is(what + ": how many", got.length, want.length);
        for (int k = 0; k < Math.min(got.length, want.length); k++) is(what + " (" + k + ")", got[k], want[k]);
    }

    static void end() {
        for (int p = 0; p <= PROMISES; p++) {
            StringBuilder left = new StringBuilder();
            for (int k = 0; k < NAMED[p].length; k++) left.append(NAMED[p][k] ? '\n' : SAID[p].charAt(k));
            for (String part : left.toString().split("\n+")) {
                if (part.matches(".*[A-Za-z0-9].*")) CHECK.is("promise " + p + ", no test names: " + part, 0, 1);
            }
        }
        CHECK.end();
    }

    // ---- baskets

    /** A new object with a BASKET that has no FAULT. */
    static NoKnot told(String text) {
        NoKnot x = new NoKnot();
        int lines = (int) text.chars().filter(c -> c == ';').count();
        is("basket " + text, Check.basket(x, text), lines);
        return x;
    }

    static void faulty(String text, int kind, int place) {
        NoKnot x = new NoKnot();
        is("basket " + text, Check.basket(x, text), -30 - kind);
        is("kind of " + text, x.fault(0), kind);
        is("place of " + text, x.fault(1), place);
    }

    static String band(int k, int before, int behind, int rounds, int from, String behindWith) {
        return "band " + k + " before " + before + " behind " + behind + " rounds " + rounds + " from " + from
                + " with " + behindWith + ";";
    }

    static NoKnot row(long... values) {
        NoKnot x = new NoKnot();
        Check.row(x, 0, 3, values);
        return x;
    }
}
