/** Boundary cases of a new object, THE TEXT and what it tells: section 1, promises 1 to 4. */
final class TextBounds {
    private TextBounds() { }

    private static final String SIX = "p0 0;p1 0;p2 0;p3 0;p4 0;p5 0;";
    private static final String SIX_SAID = "s1 0 0;s1 0 0;s1 0 0;s1 0 0;s1 0 0;s1 0 0;";

    static void run() {
        told();
        tokens();
        faults();
        newObject();
        typing();
        reading();
    }

    private static void told() {
        Bounds.sentence("Terms", "30 lie in a row", () -> {
            Bounds.reads("p0 0;", 1);
            Bounds.reads("p30 0;", 1);
            Bounds.reads("p31 0;", -11);
            WordFletchers x = Bounds.of("p0 0;p30 0;");
            Bounds.due("the first PLACE", x.one(0, 0), 0);
            Bounds.due("the last PLACE", x.one(1, 0), 30);
        });
        Bounds.sentence("Terms", "PEOPLE 0 .. (6 at most)", () -> {
            Bounds.reads(SIX, 6);
            Bounds.reads(SIX + "p6 0;", -40);
            WordFletchers x = Bounds.of(SIX);
            Bounds.due("six", x.count(0), 6);
            Bounds.due("the first", x.one(0, 0), 0);
            Bounds.due("the sixth", x.one(5, 0), 5);
            Bounds.due("a seventh", x.one(6, 0), Bounds.BAD);
        });
        Bounds.sentence("Terms", "EAR (0 .. 5)", () -> {
            Bounds.reads("p0 0;", 1);
            Bounds.reads("p0 5;", 1);
            Bounds.reads("p0 6;", -13);
            WordFletchers x = Bounds.of("p0 0;p0 5;");
            Bounds.due("the least EAR", x.one(0, 1), 0);
            Bounds.due("the greatest EAR", x.one(1, 1), 5);
        });
        Bounds.sentence("Terms", "SAYINGS 0 .. (6 at most)", () -> {
            Bounds.reads("p0 0;" + SIX_SAID, 7);
            Bounds.reads("p0 0;" + SIX_SAID + "s1 0 0;", -57);
            WordFletchers x = Bounds.of("p0 0;" + SIX_SAID.substring(7) + "s9 0 0;");
            Bounds.due("six", x.count(1), 6);
            Bounds.due("the first", x.saying(0, 0), 1);
            Bounds.due("the sixth", x.saying(5, 0), 9);
            Bounds.due("a seventh", x.saying(6, 0), Bounds.BAD);
        });
        Bounds.sentence("Terms", "WEIGHT (1 .. 9)", () -> {
            Bounds.reads("p0 0;s1 0 0;", 2);
            Bounds.reads("p0 0;s9 0 0;", 2);
            Bounds.reads("p0 0;s0 0 0;", -16);
            Bounds.reads("p0 0;s10 0 0;", -16);
        });
        Bounds.sentence("Terms", "TWIST (0 .. 3)", () -> {
            Bounds.reads("p0 0;s1 0 0;", 2);
            Bounds.reads("p0 0;s1 3 0;", 2);
            Bounds.reads("p0 0;s1 4 0;", -18);
        });
        Bounds.sentence("Terms", "FIRST (who KNOWS it at first)", () -> {
            WordFletchers x = Bounds.of(SIX + "s1 0 0;s1 0 5;s1 0 5;");
            Bounds.due("FIRST is the lowest", x.saying(0, 3), 1);
            Bounds.due("FIRST is the highest", x.saying(1, 3), 32);
            Bounds.due("what the lowest KNOWS", x.one(0, 2), 1);
            Bounds.due("what the highest KNOWS", x.one(5, 2), 6);
            for (int p = 1; p < 5; p++) Bounds.due("what " + p + " KNOWS", x.one(p, 2), 0);
        });
        Bounds.sentence("Terms", "WINDS: 1 to 6 numbers", () -> {
            Bounds.reads("w;", -11);
            Bounds.reads("w4;", 1);
            Bounds.reads("w4 4 4 4 4 4;", 1);
            Bounds.reads("w4 4 4 4 4 4 4;", -23);
            Bounds.due("one", Bounds.of("w4;").count(2), 1);
            Bounds.due("six", Bounds.of("w4 4 4 4 4 4;").count(2), 6);
        });
        Bounds.sentence("Terms", "(-4 .. 4; told as they are and 4: 0 .. 8", () -> {
            Bounds.reads("w0 8;", 1);
            Bounds.reads("w9;", -11);
            Bounds.reads("w0 9;", -13);
            WordFletchers x = Bounds.of("w0 8 4;");
            Bounds.due("the least", x.wind(0), -4);
            Bounds.due("the greatest", x.wind(1), 4);
            Bounds.due("none", x.wind(2), 0);
        });
        Bounds.sentence("Terms", "one 0, untold", () -> {
            WordFletchers x = Bounds.of("w0;");
            Bounds.type(x, "w1 2;");
            x.uplands();
            Bounds.type(x, "p0 0;");
            x.uplands();
            for (WordFletchers untold : new WordFletchers[] {new WordFletchers(), x}) {
                Bounds.due("how many untold WINDS", untold.count(2), 1);
                Bounds.due("the untold WIND", untold.wind(0), 0);
                Bounds.due("the untold WIND in 99 HOURS", untold.wind(99), 0);
            }
        });
        Bounds.sentence("Terms", "the WIND of HOUR h is the one of h left over by how many", TextBounds::wrapAround);
        Bounds.sentence("Terms", "how many there are (0 .. 20 each", () -> {
            Bounds.reads("f0 0;f1 20;", 2);
            Bounds.reads("f0 21;", -13);
            Bounds.reads("f3 21;", -13);
            WordFletchers x = Bounds.of("f0 0;f1 20;f2 20;f3 0;");
            int[] told = {0, 20, 20, 0};
            for (int kind = 0; kind < 4; kind++) Bounds.due("FEATHERS of " + kind, x.now(2 + kind), told[kind]);
        });
        Bounds.sentence("Terms", "9 of each at first", () -> {
            WordFletchers x = Bounds.of("f1 0;");
            int[] left = {9, 0, 9, 9};
            for (int kind = 0; kind < 4; kind++) {
                Bounds.due("at first, of " + kind, new WordFletchers().now(2 + kind), 9);
                Bounds.due("one told, of " + kind, x.now(2 + kind), left[kind]);
            }
        });
    }

    private static void wrapAround() {
        WordFletchers three = Bounds.of("w0 4 8;");
        int[] winds = {-4, 0, 4};
        for (int n = 0; n < 100; n++) Bounds.due("in " + n + " HOURS", three.wind(n), winds[n % 3]);
        three.hours(2);
        Bounds.due("the last of a round", three.wind(0), 4);
        Bounds.due("the first of the next", three.wind(1), -4);
        three.hours(1);
        Bounds.due("a round later", three.wind(0), -4);
        WordFletchers six = Bounds.of("w0 1 2 3 4 5;");
        for (int i = 0; i < 111; i++) six.hours(9);
        for (int n = 0; n < 100; n++) Bounds.due("at 999 in " + n + " HOURS", six.wind(n), (999 + n) % 6 - 4);
        WordFletchers one = Bounds.of("w7;");
        for (int n = 0; n < 100; n++) Bounds.due("of one, in " + n + " HOURS", one.wind(n), 3);
    }

    private static void tokens() {
        Bounds.sentence("Terms", "(120 bytes at most)", () -> {
            String full = "f0 1;".repeat(24);
            Bounds.due("the text's length", full.length(), 120);
            Bounds.reads(full, 24);
            Bounds.reads("f0 1;" + " ".repeat(115), 1);
            Bounds.reads(" ".repeat(115) + "f0 1;", 1);
            Bounds.reads(" ".repeat(116) + "f0 1;", -130);
            Bounds.reads(" ".repeat(119) + "x", -129);
        });
        Bounds.sentence("Terms", "blanks (32) ahead of, between and behind TOKENS as may be", () -> {
            Bounds.reads("   p   1   2   ;   s   9   3   0   ;   w   0   8   ;   f   3   20   ;   ", 4);
            Bounds.reads("  ", 0);
            Bounds.reads("p1\t2;", -12);
            Bounds.reads("p1\n2;", -12);
            Bounds.reads("p1 2;\r", -15);
            Bounds.reads("p1\u00a02;", -12);
            Bounds.reads("p1\u00002;", -12);
            Bounds.reads("p 1 2 ; q", -18);
        });
        Bounds.sentence("Terms", "(none needed where TOKENS end without)", () -> {
            Bounds.reads("p1 2;s9 3 0;w0;f3 2;p1 2;", 5);
            Bounds.reads("p12;", -13);
            Bounds.reads("p1 2;s93 0;", -16);
            Bounds.reads("pp1 2;", -10);
            Bounds.reads("w0 12;", -13);
        });
        Bounds.sentence("Terms", "ITEMS (none, too)", () -> {
            Bounds.reads("", 0);
            Bounds.reads(" ", 0);
            Bounds.reads(" ".repeat(120), 0);
            WordFletchers x = Bounds.of("p1 2;s9 0 0;w0 1;f0 3;");
            Bounds.due("uplands() of no ITEMS", x.uplands(), 0);
            Bounds.due("all as at first", Bounds.all(x), Bounds.all(new WordFletchers()));
        });
        Bounds.sentence("Terms", "ended by ;", () -> {
            Bounds.reads(";", -10);
            Bounds.reads("p1 2;;", -15);
            Bounds.reads("p;", -11);
            Bounds.reads("p1;", -12);
            Bounds.reads("p1 2 3;", -15);
            Bounds.reads("p0 0;s1 0;", -19);
            Bounds.reads("p0 0;s1 0 0 0;", -22);
            Bounds.reads("f1;", -12);
            Bounds.reads("f1 2 3;", -15);
            Bounds.reads("p1 2 p1 2;", -15);
        });
        Bounds.sentence("Terms", "FIRST one told ahead", () -> {
            Bounds.reads("s1 0 0;", -15);
            Bounds.reads("s1 0 0;p0 0;", -15);
            Bounds.reads("p0 0;s1 0 0;p1 0;", 3);
            Bounds.reads("p0 0;s1 0 1;p1 0;", -20);
            Bounds.reads("p0 0;p1 0;s1 0 1;", 3);
            Bounds.reads(SIX + "s1 0 5;", 7);
            Bounds.reads(SIX + "s1 0 6;", -45);
        });
        Bounds.sentence("Terms", "(WINDS; once at most)", () -> {
            Bounds.reads("w0;", 1);
            Bounds.reads("w0;w0;", -13);
            Bounds.reads("w0 1 2 3 4 5;p0 0;w0;", -28);
            WordFletchers x = Bounds.of("w0;");
            Bounds.type(x, "w8;");
            Bounds.due("once more in the next text", x.uplands(), 1);
            Bounds.due("that one's", x.wind(0), 4);
        });
        Bounds.sentence("Terms", "told again: the later", () -> {
            WordFletchers x = Bounds.of("f0 1;f1 20;f0 20;f1 0;f0 2;");
            Bounds.due("GOOSE", x.now(2), 2);
            Bounds.due("SWAN", x.now(3), 0);
            Bounds.due("CROW", x.now(4), 9);
            Bounds.due("HAIR", x.now(5), 9);
            Bounds.reads("f4 0;", -11);
        });
        Bounds.sentence("Terms", "TOKENS are letters a .. z side by side, NUMBERS and ;", () -> {
            // ` and { stand beside a and z, / and : beside 0 and 9
            for (char c : "`{/:AZ-+,.@\u007f\u0080\u00e4\u00ff".toCharArray()) {
                Bounds.reads("" + c, -10);
                Bounds.reads("p" + c, -11);
                Bounds.reads("p1" + c, -12);
                Bounds.reads("p1 2" + c, -14);
                Bounds.reads("p1 2;" + c, -15);
            }
            Bounds.reads("pa1 2;", -10);
            Bounds.reads("pz1 2;", -10);
            Bounds.reads("ap1 2;", -10);
            Bounds.reads("p0 0;p9 0;", 2);
            Bounds.reads("p19 0;p20 5;", 2);
        });
    }

    private static void faults() {
        Bounds.sentence("Terms", "FAULT: the place of the first byte of the first TOKEN that can't stand there", () -> {
            Bounds.reads("1", -10);
            Bounds.reads("  1", -12);
            Bounds.reads("p1 pp;xx", -13);
            Bounds.reads("p1 2 ab;", -15);
            Bounds.reads("p31 99;", -11);
            Bounds.reads("p1   31  ;", -15);
            Bounds.reads("w0 p", -13);
        });
        Bounds.sentence("Terms", "letters that begin no ITEM", () -> {
            for (char c = 'a'; c <= 'z'; c++) {
                Bounds.reads(c + "", "pswf".indexOf(c) < 0 ? -10 : -11);
                Bounds.reads("p1 2;" + c + c, -15);
            }
        });
        Bounds.sentence("Terms", "a seventh of PEOPLE", () -> {
            Bounds.reads(SIX + "p", -40);
            Bounds.reads(SIX + "  p0 0;", -42);
            Bounds.reads(SIX + "pp", -40);
        });
        Bounds.sentence("Terms", "a seventh SAYING", () -> {
            Bounds.reads("p0 0;" + SIX_SAID + "s", -57);
            Bounds.reads("p0 0;" + SIX_SAID + " s1 0 0;", -58);
        });
        Bounds.sentence("Terms", "w again", () -> {
            Bounds.reads("w1;w", -13);
            Bounds.reads("w1;  w;", -15);
        });
        Bounds.sentence("Terms", "a seventh number of WINDS", () -> {
            Bounds.reads("w1 2 3 4 5 6 7", -23);
            Bounds.reads("w1 2 3 4 5 6  7;", -24);
            Bounds.reads("w1 2 3 4 5 6", -22);
            Bounds.reads("w1 2 3 4 5 6;", 1);
        });
        Bounds.sentence("Terms", "a NUMBER beyond what it may be, too", () -> {
            String[] texts = {"p31", "p99", "p1 6", "p0 0;s0", "p0 0;s10", "p0 0;s1 4", "p0 0;s1 3 1", "w9", "w8 10", "f4", "f3 21"};
            int[] faults = {11, 11, 13, 16, 16, 18, 20, 11, 13, 11, 13};
            for (int i = 0; i < texts.length; i++) Bounds.reads(texts[i], -faults[i]);
        });
        Bounds.sentence("Terms", "of a byte that begins none", () -> {
            Bounds.reads("p1 2;!", -15);
            Bounds.reads("p1 2 !;", -15);
            Bounds.reads("p1 !2;", -13);
            Bounds.reads("p!!", -11);
            Bounds.reads("!!p", -10);
        });
        Bounds.sentence("Terms", "a NUMBER above 99", () -> {
            Bounds.reads("p100 0;", -11);
            Bounds.reads("p0 100;", -13);
            Bounds.reads("100;", -10);
            Bounds.reads("f256 0;", -11);
            Bounds.reads("p65536 0;", -11);
            Bounds.reads("p4294967296 0;", -11);
            Bounds.reads("p0 18446744073709551616;", -13);
            Bounds.reads("p1" + "0".repeat(118), -11);
        });
        Bounds.sentence("Terms", "or with a 0 ahead of others, that TOKEN's", () -> {
            Bounds.reads("p0 0;", 1);
            Bounds.reads("p00 0;", -11);
            Bounds.reads("p01 0;", -11);
            Bounds.reads("p0 00;", -13);
            Bounds.reads("p  05 0;", -13);
            Bounds.reads("p0" + "0".repeat(118), -11);
            Bounds.reads("p10 0;p20 0;", 2);
        });
        Bounds.sentence("Terms", "the text's length, if it ends too early", () -> {
            Bounds.reads("p", -11);
            Bounds.reads("p  ", -13);
            Bounds.reads("p1", -12);
            Bounds.reads("p1 2", -14);
            Bounds.reads("p1 2   ", -17);
            Bounds.reads("p1 2;s", -16);
            Bounds.reads("p1 2;s1 2 0", -21);
            Bounds.reads("w", -11);
            Bounds.reads("w1 2 3 4 5 6", -22);
            Bounds.reads("f", -11);
            Bounds.reads("f0 1", -14);
            Bounds.reads("p1 2" + " ".repeat(116), -130);
        });
    }

    private static void newObject() {
        Bounds.sentence("Promise 1", "As told; nobody", () -> {
            WordFletchers x = new WordFletchers();
            int[] counts = {0, 0, 1, 0, 0, 0}, nows = {0, 0, 9, 9, 9, 9, 0};
            for (int what = 0; what < 6; what++) Bounds.due("count(" + what + ")", x.count(what), counts[what]);
            for (int what = 0; what < 7; what++) Bounds.due("now(" + what + ")", x.now(what), nows[what]);
            Bounds.due("one(0, 0)", x.one(0, 0), Bounds.BAD);
            Bounds.due("saying(0, 0)", x.saying(0, 0), Bounds.BAD);
            Bounds.due("stray(0, 0)", x.stray(0, 0), Bounds.NONE);
            Bounds.due("undo()", x.undo(), Bounds.STATE);
            Bounds.due("who()", x.who(), 0);
            Bounds.due("ask()", x.ask(), Bounds.NONE);
            Bounds.due("trace()", x.trace(), 0);
            x.hours(1);
            Bounds.due("another object's HOUR", new WordFletchers().now(0), 0);
        });
        Bounds.sentence("What it is", "at most 512 calls", () -> {
            WordFletchers x = new WordFletchers();
            for (int i = 1; i <= 120; i++) x.type(' ');
            for (int i = 1; i <= 391; i++) Bounds.due("type(32), call " + (120 + i), x.type(' '), Bounds.FULL);
            Bounds.due("clear(), call 512", x.clear(), 120);
            WordFletchers letting = Bounds.of("p9 0;s9 0 0;");
            for (int i = 14; i <= 511; i++) letting.lets(0, 0, 0, 0, 0);
            Bounds.due("undo(), call 512", letting.undo(), 9);
        });
    }

    private static void typing() {
        Bounds.sentence("Promise 2", "A byte (0 .. 255)", () -> {
            WordFletchers x = new WordFletchers();
            Bounds.due("type(0)", x.type(0), 1);
            Bounds.due("type(255)", x.type(255), 2);
            Bounds.due("type(-1)", x.type(-1), Bounds.BAD);
            Bounds.due("type(256)", x.type(256), Bounds.BAD);
            Bounds.due("how many bytes", x.count(5), 2);
            Bounds.due("byte 0 begins no TOKEN", x.uplands(), -10);
            Bounds.bounds("type", WordFletchers::new, (y, n) -> y.type(n[0]), Bounds.BAD, Bounds.to(0, 255));
        });
        Bounds.sentence("Promise 2", "BAD; FULL", () -> {
            WordFletchers x = new WordFletchers();
            for (int i = 1; i <= 120; i++) Bounds.due("type(32)", x.type(32), i);
            Bounds.due("type(32) of 121", x.type(32), Bounds.FULL);
            Bounds.due("type(256) of 121", x.type(256), Bounds.BAD);
            Bounds.due("type(-1) of 121", x.type(-1), Bounds.BAD);
            Bounds.due("how many bytes", x.count(5), 120);
            x.clear();
            Bounds.due("type(32) behind clear()", x.type(32), 1);
            Bounds.refused("type(256)", TextBounds::typed, y -> y.type(256), Bounds.BAD);
            Bounds.refused("type(59) when full", TextBounds::typedFull, y -> y.type(59), Bounds.FULL);
        });
        Bounds.sentence("Promise 3", "THE TEXT is empty: how many bytes it had", () -> {
            WordFletchers x = new WordFletchers();
            Bounds.due("clear() of none", x.clear(), 0);
            x.type('p');
            Bounds.due("clear() of one", x.clear(), 1);
            Bounds.due("clear() again", x.clear(), 0);
            Bounds.type(x, " ".repeat(120));
            Bounds.due("clear() of a full one", x.clear(), 120);
            Bounds.due("bytes left", x.count(5), 0);
            Bounds.due("uplands() of an empty one", x.uplands(), 0);
            WordFletchers read = Bounds.of("p1 2;");
            Bounds.due("clear() behind uplands()", read.clear(), 0);
            Bounds.due("what was told stays", read.count(0), 1);
        });
    }

    private static WordFletchers typed() {
        WordFletchers x = Bounds.of("p1 2;p2 0;s9 0 0;");
        x.hours(1);
        x.lets(0, 0, 0, 0, 0);
        Bounds.type(x, "p3 0;");
        return x;
    }

    private static WordFletchers typedFull() {
        WordFletchers x = Bounds.of("p1 2;");
        x.hours(1);
        Bounds.type(x, "p3 0" + " ".repeat(116));
        return x;
    }

    private static void reading() {
        Bounds.sentence("Promise 4", "THE TEXT tells all, and is empty then: how many ITEMS", () -> {
            WordFletchers x = new WordFletchers();
            Bounds.type(x, "p1 2;f0 1;");
            Bounds.due("two ITEMS", x.uplands(), 2);
            Bounds.due("bytes left", x.count(5), 0);
            Bounds.due("no ITEMS", x.uplands(), 0);
            Bounds.due("nobody", x.count(0), 0);
            Bounds.due("the first byte again", x.type('p'), 1);
        });
        Bounds.sentence("Promise 4", "-10 less FAULT: nothing changes (THE TEXT, too, stays)", () -> {
            Bounds.reads("q", -10);
            Bounds.reads("p1 2;f1 3;q", -20);
            Bounds.reads("p1 2;s9 0 0;w1 2;f1 3;p", -33);
            Bounds.refused("uplands() of a text that ends too early", TextBounds::muchDone, WordFletchers::uplands, -31);
            WordFletchers x = muchDone();
            x.uplands();
            Bounds.due("an IMAGE stays", x.back(1), 1);
            Bounds.due("so does its DAMP", x.now(1), 0);
            x.type('0');
            x.type(';');
            Bounds.due("THE TEXT goes on", x.uplands(), 5);
            Bounds.due("it tells all", x.count(0), 3);
        });
    }

    private static WordFletchers muchDone() {
        WordFletchers x = Bounds.of("p1 2;p2 0;s9 0 0;w5 6;f1 3;");
        x.hours(1);
        x.keep(1);
        x.damps(2);
        x.saw(0, 1);
        x.mark(3, 0);
        x.lets(0, 0, 1, 1, 1);
        Bounds.type(x, "f0 0;w0;p0 0;p1 0;p2");
        x.type(' ');
        return x;
    }
}
