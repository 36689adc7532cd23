import java.io.IOException;
import java.io.UncheckedIOException;
import java.nio.file.Files;
import java.nio.file.Path;
import java.util.BitSet;
import java.util.function.Supplier;
import java.util.function.ToLongFunction;
import java.util.regex.Matcher;
import java.util.regex.Pattern;

/**
 * What the tests of boundary cases share. Each test is told with the words of the document that
 * it is for, so that words without a test, and tests of words that the document no longer has,
 * are found.
 */
final class Bounds {
    static final int BAD = -1, STATE = -2, FULL = -3, NONE = -9, NO = -1000000;
    static final int[] FAR = {Integer.MIN_VALUE, -1000000, 1000000, Integer.MAX_VALUE};

    // Words by which the document names a boundary.
    private static final Pattern EDGE = Pattern.compile(
        "\\d \\.\\. \\d|at most|at least|at first|\\bBAD\\b|\\bSTATE\\b|\\bFULL\\b|\\bNONE\\b|\\bNO\\b|[Bb]eyond|"
        + "\\bnone\\b|\\bempty\\b|[Nn]obody|[Nn]othing|seventh|again|above \\d|too early|alike|fewer than|not 0|"
        + "farther|left over|untold|nowhere|\\btoo\\b|are lost|are gone|not so many|0 ahead of|whoever|whatever|"
        + "of several|of like ones|[Rr]ead anew|least terms|(?<!told )ahead\\b");

    private static final Path DOC = Path.of("../shared/DOC.md");
    private static final String doc = readDoc();
    private static final BitSet covered = new BitSet();
    private static int wrong = 0, tests = 0, answers = 0;
    private static String at = "";

    private Bounds() { }

    private static String readDoc() {
        try {
            // Where the document itself isn't at hand, the tests still run.
            if (!Files.exists(DOC)) return "";
            return Files.readString(DOC).replaceAll("```\\w*", " ").replaceAll("\\s+", " ");
        } catch (IOException e) {
            throw new UncheckedIOException(e);
        }
    }

    private static void fault(String what) {
        wrong++;
        System.out.println(at + what);
    }

    /** A test for words that stand below a heading of the document. */
    static void sentence(String heading, String words, Runnable test) {
        at = heading + ", <" + words + ">: ";
        int head = Math.max(doc.indexOf("## " + heading + ":"), doc.indexOf("## " + heading + " "));
        int end = head < 0 ? -1 : doc.indexOf(" ## ", head);
        int from = head < 0 ? -1 : doc.indexOf(words, head);
        if (doc.isEmpty()) {
            at = heading + ": ";
        } else if (from < 0 || end >= 0 && from >= end) {
            fault("the document has no such words there");
        } else {
            covered.set(from, from + words.length());
        }
        int before = answers;
        test.run();
        if (answers == before) {
            fault("its test asks nothing");
        }
        tests++;
        at = "";
    }

    /** Whether all answers were due, and all words that name a boundary have a test. */
    static boolean held() {
        int from = doc.indexOf("## Terms"), to = doc.indexOf("## Not promised");
        Matcher edges = EDGE.matcher(doc).region(Math.max(0, from), to < 0 ? doc.length() : to);
        while (edges.find()) {
            if (covered.get(edges.start(), edges.end()).cardinality() < edges.end() - edges.start()) {
                fault("no test is for <" + doc.substring(Math.max(0, edges.start() - 30), Math.min(doc.length(), edges.end() + 30)) + ">");
            }
        }
        System.out.println(wrong == 0 ? "all " + tests + " boundary sentences hold, by " + answers + " answers" : wrong + " faults");
        return wrong == 0;
    }

    static void due(String what, Object got, Object want) {
        answers++;
        if (!got.equals(want)) {
            fault(what + " answered " + got + ", due is " + want);
        }
    }

    static void due(String what, long got, long want) {
        due(what, (Object) got, (Object) want);
    }

    static void type(WordFletchers x, String text) {
        for (int i = 0; i < text.length(); i++) {
            x.type(text.charAt(i));
        }
    }

    static WordFletchers of(String text) {
        WordFletchers x = new WordFletchers();
        type(x, text);
        int items = x.uplands();
        if (items < 0) {
            fault("uplands() of <" + text + "> answered " + items);
        }
        return x;
    }

    /** What uplands() answers to a text; a FAULT must change nothing. */
    static void reads(String text, int want) {
        WordFletchers x = new WordFletchers(), untouched = new WordFletchers();
        type(x, text);
        due("uplands() of <" + text + ">", x.uplands(), want);
        if (want <= -10) {
            type(untouched, text);
            due("all behind the FAULT of <" + text + ">", all(x), all(untouched));
            due("uplands() of <" + text + "> again", x.uplands(), want);
        } else {
            due("bytes left of <" + text + ">", x.count(5), 0);
        }
    }

    /** What NOW is: 7 calls, 3 more for each of PEOPLE, 2 for what LIES. */
    static String state(WordFletchers x) {
        StringBuilder t = new StringBuilder();
        for (int what = 0; what < 7; what++) t.append(x.now(what)).append(' ');
        for (int p = 0; p < x.count(0); p++) t.append(x.one(p, 2)).append(' ');
        for (int i = 0; i < x.now(6); i++) t.append(x.stray(i, 0)).append('@').append(x.stray(i, 1)).append(' ');
        return t.toString();
    }

    /** All that can be read without changing it. */
    static String all(WordFletchers x) {
        StringBuilder t = new StringBuilder(state(x));
        for (int what = 0; what < 6; what++) t.append("; ").append(x.count(what));
        for (int p = 0; p < x.count(0); p++) t.append("; ").append(x.one(p, 0)).append(' ').append(x.one(p, 1));
        for (int s = 0; s < x.count(1); s++) {
            for (int what = 0; what < 4; what++) t.append("; ").append(x.saying(s, what));
        }
        for (int n = 0; n < 7; n++) t.append("; ").append(x.wind(n));
        return t.append("; ").append(x.who()).append("; ").append(x.ask()).append("; ").append(x.trace()).toString();
    }

    /** A call is refused, and nothing changes: nor what may be UNDONE, nor THE TEXT. */
    static void refused(String what, Supplier<WordFletchers> maker, ToLongFunction<WordFletchers> call, long want) {
        WordFletchers x = maker.get(), untouched = maker.get();
        due(what, call.applyAsLong(x), want);
        due("all behind " + what, all(x), all(untouched));
        while (untouched.count(4) > 0) {
            due("undo() behind " + what, x.undo(), untouched.undo());
            due("what is undone behind " + what, state(x), state(untouched));
        }
        int items = untouched.uplands();
        due("THE TEXT read behind " + what, x.uplands(), items);
    }

    interface Call {
        long of(WordFletchers x, int[] numbers);
    }

    /** Which numbers a call refuses: those beyond the bounds told of one of them. */
    static void bounds(String name, Supplier<WordFletchers> maker, Call call, int refusal, int[]... leastAndMost) {
        int[][] tried = new int[leastAndMost.length][];
        int ways = 1;
        for (int i = 0; i < tried.length; i++) {
            int least = leastAndMost[i][0], most = leastAndMost[i][1];
            tried[i] = new int[] {least, most, least - 1, most + 1, FAR[0], FAR[3]};
            ways *= tried[i].length;
        }
        WordFletchers x = maker.get();
        int[] numbers = new int[tried.length];
        for (int way = 0; way < ways; way++) {
            if (way % 200 == 199) {
                x = maker.get();
            }
            boolean beyond = false;
            for (int i = 0, rest = way; i < tried.length; i++, rest /= 6) {
                numbers[i] = tried[i][rest % 6];
                beyond |= rest % 6 > 1;
            }
            long got = call.of(x, numbers);
            due(name + java.util.Arrays.toString(numbers) + " = " + got + " is refused", got == refusal, beyond);
        }
    }

    static int[] to(int least, int most) {
        return new int[] {least, most};
    }
}
