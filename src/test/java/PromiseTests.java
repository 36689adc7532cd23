/** Each promise of the document by hand: ordinary inputs, named edges, wrong inputs. */
public final class PromiseTests {
    private static final int BAD = -1, STATE = -2, FULL = -3, NONE = -9, NO = -1000000;
    private static int wrong = 0;

    private static void due(String what, long got, long want) {
        if (got != want) {
            wrong++;
            System.out.println(what + " answered " + got + ", due is " + want);
        }
    }

    private static void write(WordFletchers x, String text) {
        for (int i = 0; i < text.length(); i++) {
            x.type(text.charAt(i));
        }
    }

    private static WordFletchers of(String text) {
        WordFletchers x = new WordFletchers();
        write(x, text);
        int items = x.uplands();
        if (items < 0) {
            due("uplands() of <" + text + ">", items, 0);
        }
        return x;
    }

    private static void promise1() {
        WordFletchers x = new WordFletchers();
        int[] counts = {0, 0, 1, 0, 0, 0};
        for (int i = 0; i < 6; i++) due("1: count(" + i + ")", x.count(i), counts[i]);
        int[] nows = {0, 0, 9, 9, 9, 9, 0};
        for (int i = 0; i < 7; i++) due("1: now(" + i + ")", x.now(i), nows[i]);
        due("1: one(0, 0)", x.one(0, 0), BAD);
        due("1: saying(0, 0)", x.saying(0, 0), BAD);
        due("1: wind(5)", x.wind(5), 0);
        due("1: stray(0, 0)", x.stray(0, 0), NONE);
        due("1: lets", x.lets(0, 0, 0, 0, 0), BAD);
        due("1: picks(0)", x.picks(0), BAD);
        due("1: undo()", x.undo(), STATE);
        due("1: allot(1, -1)", x.allot(1, -1), BAD);
        due("1: call(0, 1, 0)", x.call(0, 1, 0), BAD);
        due("1: saw(0, 0)", x.saw(0, 0), BAD);
        due("1: who()", x.who(), 0);
        due("1: ask()", x.ask(), NONE);
        due("1: mark(0, 0)", x.mark(0, 0), NO);
        due("1: back(0)", x.back(0), STATE);
        due("1: back(1)", x.back(1), STATE);
        due("1: trace()", x.trace(), 0);
        due("1: uplands()", x.uplands(), 0);
    }

    private static void promises2And3() {
        WordFletchers x = new WordFletchers();
        due("2: type(-1)", x.type(-1), BAD);
        due("2: type(256)", x.type(256), BAD);
        due("2: type(0)", x.type(0), 1);
        due("2: type(255)", x.type(255), 2);
        for (int i = 3; i <= 120; i++) due("2: type(32)", x.type(32), i);
        due("2: type(32), the 121st", x.type(32), FULL);
        due("2: type(256), the 121st", x.type(256), BAD);
        due("2: count(5)", x.count(5), 120);
        due("3: clear()", x.clear(), 120);
        due("3: count(5)", x.count(5), 0);
        due("3: clear() again", x.clear(), 0);
        due("2: type(65)", x.type(65), 1);
        write(x, "p");
        due("3: clear() of two", x.clear(), 2);
        due("3: uplands() behind it", x.uplands(), 0);
    }

    private static void reads(String text, int want) {
        WordFletchers x = new WordFletchers();
        write(x, text);
        due("4: uplands() of <" + text + ">", x.uplands(), want);
        due("4: text left of <" + text + ">", x.count(5), want < 0 ? text.length() : 0);
        if (want < 0) {
            due("4: uplands() again of <" + text + ">", x.uplands(), want);
            due("4: people behind <" + text + ">", x.count(0), 0);
            due("4: sayings behind <" + text + ">", x.count(1), 0);
            due("4: winds behind <" + text + ">", x.count(2), 1);
            for (int i = 2; i < 6; i++) due("4: feathers behind <" + text + ">", x.now(i), 9);
        }
    }

    private static void promise4() {
        reads("", 0);
        reads("   ", 0);
        reads("p0 0;", 1);
        reads("p30 5;", 1);
        reads("  p  5   1  ;  ", 1);
        reads("p5 1;s9 3 0;w0 8;f3 20;", 4);
        reads("f0 0;f3 20;f0 7;", 3);
        reads("w0 1 2 3 4 5;", 1);
        reads("s1 0 0;", -15);
        reads("s1 0 0;p0 0;", -15);
        reads("p0 0;s1 0 1;p1 0;", -20);
        reads("p31 0;", -11);
        reads("p0 6;", -13);
        reads("p 0  6;", -15);
        reads("p0 0;s0 0 0;", -16);
        reads("p0 0;s10 0 0;", -16);
        reads("p0 0;s1 4 0;", -18);
        reads("f4 0;", -11);
        reads("f0 21;", -13);
        reads("w9;", -11);
        reads("w;", -11);
        reads("w0 1 2 3 4 5 6;", -23);
        reads("w0;w0;", -13);
        reads("w 0 ; p0 0; w", -22);
        reads("p0 0;p0 0;p0 0;p0 0;p0 0;p0 0;", 6);
        reads("p0 0;p0 0;p0 0;p0 0;p0 0;p0 0; p0 0;", -41);
        reads("p0 0;s1 0 0;s1 0 0;s1 0 0;s1 0 0;s1 0 0;s1 0 0;", 7);
        reads("p0 0;s1 0 0;s1 0 0;s1 0 0;s1 0 0;s1 0 0;s1 0 0;s", -57);
        reads("p", -11);
        reads("p ", -12);
        reads("p0", -12);
        reads("p0 0", -14);
        reads("p0 0 ", -15);
        reads("w0", -12);
        reads("p0;", -12);
        reads("p0 0 0;", -15);
        reads("p0 0;;", -15);
        reads(";", -10);
        reads("0;", -10);
        reads("pp0 0;", -10);
        reads("pf", -10);
        reads("pz0 0;", -10);
        reads("pa0 0;", -10);
        reads("p{", -11);
        reads("p`", -11);
        reads("p:", -11);
        reads("p/", -11);
        reads("x;", -10);
        reads("p0 0;q", -15);
        reads("P0 0;", -10);
        reads("p0 p;", -13);
        reads("p0p", -12);
        reads("p00 0;", -11);
        reads("p 05 0;", -12);
        reads("p100 0;", -11);
        reads("p0 99999999999999999999;", -13);
        reads("f4294967296 0;", -11);
        reads("p0\t0;", -12);
        reads("p0 0;\u00e9", -15);
        reads("p0 0;\u0000", -15);
        reads("p0 -1;", -13);
        StringBuilder longest = new StringBuilder("p1 2;");
        while (longest.length() < 120) longest.append("f1 2;");
        reads(longest.toString(), 24);
        readAnew();
    }

    private static void readAnew() {
        WordFletchers x = of("p5 1;p6 1;s9 0 0;w5 6;f1 3;");
        x.hours(3);
        x.damps(2);
        x.lets(0, 0, 1, 0, 0);
        x.saw(0, 5);
        x.mark(1, 0);
        x.keep(0);
        write(x, "p");
        due("4: a fault behind much", x.uplands(), -11);
        int[] kept = {3, 2, 9, 3, 9, 9, 0};
        for (int i = 0; i < 7; i++) due("4: now(" + i + ") behind a fault", x.now(i), kept[i]);
        int[] keptCounts = {2, 1, 2, 1, 3, 1};
        for (int i = 0; i < 6; i++) due("4: count(" + i + ") behind a fault", x.count(i), keptCounts[i]);
        due("4: one(1, 2) behind a fault", x.one(1, 2), 1);
        due("4: back(0) behind a fault", x.back(0), 3);
        write(x, "1 2;f0 7;f0 4;");
        due("4: the text went on", x.uplands(), 3);
        int[] anew = {0, 0, 4, 9, 9, 9, 0};
        for (int i = 0; i < 7; i++) due("4: now(" + i + ") read anew", x.now(i), anew[i]);
        int[] anewCounts = {1, 0, 1, 0, 0, 0};
        for (int i = 0; i < 6; i++) due("4: count(" + i + ") read anew", x.count(i), anewCounts[i]);
        due("4: wind(0) read anew", x.wind(0), 0);
        due("4: one(0, 2) read anew", x.one(0, 2), 0);
        due("4: back(0) read anew", x.back(0), STATE);
        due("4: undo() read anew", x.undo(), STATE);
        due("4: trace() read anew", x.trace(), 11);
        write(x, "p0 0;s9 0 0;");
        x.uplands();
        x.lets(0, 0, 0, 0, 0);
        due("4: one lies", x.now(6), 1);
        due("4: uplands() of nothing", x.uplands(), 0);
        due("4: nothing lies", x.now(6), 0);
        due("4: nobody", x.count(0), 0);
        due("4: 9 GEESE", x.now(2), 9);
    }

    private static void promises5And6() {
        WordFletchers x = of("p7 2;p30 0;p0 5;s4 3 2;s9 0 0;s1 1 2;");
        int[][] people = {{7, 2, 2}, {30, 0, 0}, {0, 5, 5}};
        int[][] sayings = {{4, 3, 2, 4}, {9, 0, 0, 1}, {1, 1, 2, 4}};
        for (int i = 0; i < 3; i++) {
            for (int what = 0; what < 3; what++) due("5: one(" + i + ", " + what + ")", x.one(i, what), people[i][what]);
            for (int what = 0; what < 4; what++) due("6: saying(" + i + ", " + what + ")", x.saying(i, what), sayings[i][what]);
        }
        due("5: one(3, 0)", x.one(3, 0), BAD);
        due("5: one(-1, 0)", x.one(-1, 0), BAD);
        due("5: one(0, 3)", x.one(0, 3), BAD);
        due("5: one(0, -1)", x.one(0, -1), BAD);
        due("6: saying(3, 0)", x.saying(3, 0), BAD);
        due("6: saying(-1, 0)", x.saying(-1, 0), BAD);
        due("6: saying(0, 4)", x.saying(0, 4), BAD);
        due("6: saying(0, -1)", x.saying(0, -1), BAD);
        due("5: EAR 2 hears 2 off", of("p7 2;p0 5;s9 3 0;").call(1, 0, 0), 121);
        due("5: EAR 0 doesn't", of("p7 0;p0 5;s9 3 0;").call(1, 0, 0), NONE);
    }

    private static void promise7() {
        WordFletchers x = of("w0 4 8;");
        int[] winds = {-4, 0, 4, -4, 0};
        for (int n = 0; n < 5; n++) due("7: wind(" + n + ")", x.wind(n), winds[n]);
        due("7: wind(99)", x.wind(99), -4);
        due("7: wind(100)", x.wind(100), NO);
        due("7: wind(-1)", x.wind(-1), NO);
        x.hours(1);
        due("7: wind(0) an HOUR later", x.wind(0), 0);
        due("7: wind(99) an HOUR later", x.wind(99), 0);
        due("7: wind(98) an HOUR later", x.wind(98), -4);
    }

    /** One at 15 alone, with a SAYING of TWIST 3: PLAIN ones lie at 12 (side 1) and 18 (side 0). */
    private static void promise8() {
        WordFletchers x = of("p15 0;s1 3 0;s9 0 0;");
        due("8: stray(0, 0)", x.stray(0, 0), NONE);
        x.lets(0, 0, 0, 0, 1);
        x.lets(0, 1, 0, 0, 0);
        x.lets(0, 0, 3, 0, 0);
        int[][] strays = {{0, 12}, {1, 15}, {0, 18}};
        for (int i = 0; i < 3; i++) {
            for (int what = 0; what < 2; what++) due("8: stray(" + i + ", " + what + ")", x.stray(i, what), strays[i][what]);
        }
        due("8: stray(3, 1)", x.stray(3, 1), NONE);
        due("8: stray(7, 0)", x.stray(7, 0), NONE);
        due("8: stray(8, 0)", x.stray(8, 0), BAD);
        due("8: stray(-1, 0)", x.stray(-1, 0), BAD);
        due("8: stray(0, 2)", x.stray(0, 2), BAD);
        due("8: stray(0, -1)", x.stray(0, -1), BAD);
        for (int i = 0; i < 5; i++) x.lets(0, 1, 0, 0, 0);
        due("8: eight lie", x.now(6), 8);
        due("8: the longest of eight", x.stray(0, 1), 12);
        x.lets(0, 0, 0, 0, 0);
        due("8: eight lie still", x.now(6), 8);
        due("8: the longest is lost", x.stray(0, 1), 15);
        due("8: the next is the longest but one", x.stray(1, 1), 18);
        due("8: the latest is the last", x.stray(7, 1), 18);
    }

    private static void promise9() {
        // GOOSE of WEIGHT 3, TWIST 1: 1, 4, 7; SWAN: 4, 10, 16
        WordFletchers x = of("p10 5;p14 1;p20 2;s3 1 0;f0 2;");
        due("9: he doesn't know it", x.lets(1, 0, 0, 0, 0), STATE);
        due("9: three GEESE of two", x.lets(0, 0, 0, 3, 1), STATE);
        due("9: nothing to undo", x.count(4), 0);
        due("9: two GEESE", x.lets(0, 0, 0, 2, 1), 2);
        due("9: they are gone", x.now(2), 0);
        due("9: he knows it", x.one(1, 2), 1);
        due("9: who knows it", x.saying(0, 3), 3);
        due("9: one GOOSE of none", x.lets(0, 0, 0, 1, 1), STATE);
        due("9: PLAIN goes to the other side, and he himself doesn't hear", x.lets(0, 0, 0, 0, 0), 0);
        due("9: it lies", x.stray(0, 1), 11);
        due("9: who knew it ahead counts", x.lets(0, 0, 1, 1, 1), 2);
        due("9: so it doesn't lie", x.now(6), 1);
        due("9: a SWAN is gone", x.now(3), 8);
        due("9: beyond the row", x.lets(0, 0, 1, 3, 0), 0);
        due("9: lies nowhere", x.now(6), 1);
        due("9: but three SWANS are gone", x.now(3), 5);
        due("9: by the other", x.lets(1, 0, 2, 2, 1), 4);
        due("9: CROWS are gone", x.now(4), 7);
        due("9: all three", x.saying(0, 3), 7);
        due("9: to be undone", x.count(4), 5);
        int[][] bad = {{-1, 0, 0, 0, 0}, {3, 0, 0, 0, 0}, {0, -1, 0, 0, 0}, {0, 1, 0, 0, 0}, {0, 0, -1, 0, 0},
            {0, 0, 4, 0, 0}, {0, 0, 0, -1, 0}, {0, 0, 0, 4, 0}, {0, 0, 0, 0, -1}, {0, 0, 0, 0, 2}};
        for (int[] b : bad) {
            due("9: lets, bad", x.lets(b[0], b[1], b[2], b[3], b[4]), BAD);
            due("16: lands, bad", x.lands(b[0], b[1], b[2], b[3], b[4]), BAD);
        }
        due("9: BAD is ahead of STATE", x.lets(2, 0, 0, 3, 2), BAD);
        WordFletchers two = of("p10 0;p11 1;p9 1;p12 1;s9 0 0;");
        due("9: two hear", two.lets(0, 0, 0, 0, 0), 6);
        due("9: three HAIRS of WEIGHT 9 fall at his feet", two.lets(0, 0, 3, 3, 1), 6);
    }

    private static void promise10() {
        WordFletchers x = of("p15 0;p18 0;s9 0 0;s8 0 0;s7 0 0;");
        due("10: none", x.picks(0), STATE);
        due("10: bad", x.picks(2), BAD);
        due("10: bad", x.picks(-1), BAD);
        x.lets(0, 2, 2, 2, 0);
        x.lets(0, 1, 0, 0, 0);
        x.lets(0, 0, 0, 0, 0);
        x.lets(0, 1, 0, 0, 0);
        due("10: none at 18", x.picks(1), STATE);
        due("10: the longest at 15", x.picks(0), 1);
        due("10: three lie", x.now(6), 3);
        due("10: elsewhere it lies still", x.stray(0, 1), 14);
        due("10: the next", x.picks(0), 0);
        due("10: the last", x.picks(0), 1);
        due("10: no more", x.picks(0), STATE);
        due("10: one lies", x.now(6), 1);
        due("10: undone", x.undo(), 6);
        due("10: it lies again", x.stray(1, 0), 1);
    }

    private static void promise11() {
        WordFletchers x = new WordFletchers();
        due("11: hours(0)", x.hours(0), BAD);
        due("11: hours(10)", x.hours(10), BAD);
        for (int i = 1; i <= 110; i++) due("11: hours(9)", x.hours(9), 9 * i);
        due("11: hours(9) to 999", x.hours(9), 999);
        due("11: hours(1) beyond", x.hours(1), STATE);
        due("11: hours(10) is BAD first", x.hours(10), BAD);
        due("11: ten are known", x.undo(), 9);
        due("11: the HOUR again", x.now(0), 990);
        for (int i = 8; i >= 0; i--) {
            due("11: undo()", x.undo(), i);
            due("11: the HOUR of each", x.now(0), 909 + 9 * i);
        }
        due("11: ten were known", x.undo(), STATE);
        for (int i = 1; i <= 9; i++) due("11: hours(9)", x.hours(9), 909 + 9 * i);
        due("11: hours(8)", x.hours(8), 998);
        due("11: hours(2)", x.hours(2), STATE);
        due("11: hours(1)", x.hours(1), 999);
    }

    private static void promise12() {
        WordFletchers x = of("p0 0;p10 0;s6 0 0;");
        due("12: damps(0)", x.damps(0), STATE);
        due("12: damps(-1)", x.damps(-1), BAD);
        due("12: damps(6)", x.damps(6), BAD);
        due("12: damps(5)", x.damps(5), 0);
        due("12: damps(5) again", x.damps(5), STATE);
        due("12: GOOSE feels it", x.lands(0, 0, 0, 3, 1), 0);
        due("12: SWAN feels it", x.lands(0, 0, 1, 2, 1), 1);
        due("12: CROW doesn't", x.lands(0, 0, 2, 2, 1), 2);
        due("12: HAIR feels it", x.lands(0, 0, 3, 3, 1), 0);
        due("12: damps(2)", x.damps(2), 5);
        due("12: undo", x.undo(), 1);
        due("12: DAMP again", x.now(1), 5);
    }

    private static void promise13() {
        WordFletchers x = of("f0 20;f1 19;f2 0;");
        due("13: GOOSE", x.plucks(0, 1), STATE);
        due("13: SWAN", x.plucks(1, 9), 20);
        due("13: CROW", x.plucks(2, 9), 9);
        due("13: HAIR", x.plucks(3, 4), 13);
        due("13: HAIR, undone", x.undo(), 2);
        due("13: HAIR as ahead", x.now(5), 9);
        due("13: bad kind", x.plucks(4, 1), BAD);
        due("13: bad kind", x.plucks(-1, 1), BAD);
        due("13: bad number", x.plucks(2, 0), BAD);
        due("13: bad number", x.plucks(0, 10), BAD);
    }

    private static void promise14() {
        WordFletchers x = of("p15 0;p19 0;s9 0 0;s1 3 0;");
        x.lets(0, 0, 0, 0, 0);
        x.lets(0, 1, 2, 1, 1);
        x.lets(0, 1, 0, 2, 1);
        due("14: it lies at 15, 21, 23", x.now(6), 3);
        x.picks(0);
        x.hours(4);
        x.hours(4);
        x.damps(3);
        x.plucks(1, 2);
        due("14: eight", x.count(4), 8);
        x.hours(1);
        x.hours(1);
        x.hours(1);
        due("14: ten at most", x.count(4), 10);
        for (int i = 0; i < 3; i++) due("14: undo()", x.undo(), 9 - i);
        due("14: HOUR 8", x.now(0), 8);
        due("14: SWANS", x.now(3), 11);
        due("14: the plucked", x.undo(), 6);
        due("14: SWANS as ahead", x.now(3), 9);
        due("14: the DAMP", x.undo(), 5);
        due("14: no DAMP", x.now(1), 0);
        due("14: HOURS of one call together", x.undo(), 4);
        due("14: HOUR 4", x.now(0), 4);
        due("14: HOURS", x.undo(), 3);
        due("14: HOUR 0", x.now(0), 0);
        due("14: two lie", x.now(6), 2);
        due("14: the picked", x.undo(), 2);
        due("14: it lies as ahead", x.stray(0, 0), 0);
        due("14: three lie", x.now(6), 3);
        due("14: a let off that lies", x.undo(), 1);
        due("14: two lie", x.now(6), 2);
        due("14: GEESE are there", x.now(2), 9);
        due("14: CROW is gone", x.now(4), 8);
        due("14: the latest let off that is known", x.undo(), 0);
        due("14: CROW is there", x.now(4), 9);
        due("14: no more", x.undo(), STATE);
        due("14: one lies", x.now(6), 1);
        due("14: the first let off stays", x.stray(0, 1), 15);
    }

    private static void promise14Knowing() {
        WordFletchers x = of("p15 0;p18 0;s1 0 0;");
        due("14: a CROW's 3", x.lets(0, 0, 2, 1, 1), 2);
        due("14: he knows", x.one(1, 2), 1);
        due("14: undone", x.undo(), 0);
        due("14: he doesn't know", x.one(1, 2), 0);
        due("14: nor may let it off", x.lets(1, 0, 0, 0, 0), STATE);
    }

    private static void promise15() {
        WordFletchers x = of("p15 0;s9 0 0;f0 1;f1 2;f2 3;f3 4;");
        x.hours(7);
        x.damps(3);
        x.lets(0, 0, 0, 0, 0);
        x.lets(0, 0, 0, 0, 0);
        int[] nows = {7, 3, 1, 2, 3, 4, 2};
        for (int i = 0; i < 7; i++) due("15: now(" + i + ")", x.now(i), nows[i]);
        due("15: now(7)", x.now(7), BAD);
        due("15: now(-1)", x.now(-1), BAD);
    }

    private static void promise16() {
        // WEIGHT 4, TWIST 1: GOOSE 0, 3, 6; SWAN 3, 9, 15; CROW 1, 5, 9; HAIR 0, 1, 3
        WordFletchers x = of("p15 0;s4 1 0;w6 1;");
        int[][] up = {{15, 20, 23}, {20, 26, NONE}, {18, 22, 26}, {15, 16, 18}};
        int[][] down = {{15, 14, 11}, {14, 8, 2}, {16, 12, 8}, {15, 14, 12}};
        for (int f = 0; f < 4; f++) {
            due("16: PLAIN up", x.lands(0, 0, f, 0, 0), 18);
            due("16: PLAIN down", x.lands(0, 0, f, 0, 1), 16);
            for (int n = 1; n < 4; n++) {
                due("16: up by " + n + " of " + f, x.lands(0, 0, f, n, 1), up[f][n - 1]);
                due("16: down by " + n + " of " + f, x.lands(0, 0, f, n, 0), down[f][n - 1]);
            }
        }
        x.hours(1);
        due("16: in WIND -3, up", x.lands(0, 0, 1, 1, 1), 15);
        due("16: in WIND -3, down", x.lands(0, 0, 1, 3, 0), NONE);
        due("16: in WIND -3, HAIR", x.lands(0, 0, 3, 3, 0), 12);
        due("16: nothing is gone", x.now(3), 9);
        due("16: even by who doesn't know it", of("p3 0;p4 0;s9 0 0;f0 0;").lands(1, 0, 0, 3, 0), 4);
        due("16: at 0 still", of("p3 0;s3 0 0;").lands(0, 0, 0, 2, 0), 0);
        due("16: at 30 still", of("p27 0;s3 0 0;").lands(0, 0, 0, 2, 1), 30);
        due("16: below 0", of("p2 0;s3 0 0;").lands(0, 0, 0, 2, 0), NONE);
        due("16: above 30", of("p28 0;s3 0 0;").lands(0, 0, 0, 2, 1), NONE);
        due("16: PLAIN without TWIST feels no WIND", of("p5 0;s3 0 0;w8;").lands(0, 0, 0, 0, 1), 5);
        WordFletchers damp = of("p10 0;s3 2 0;");
        damp.damps(5);
        due("16: PLAIN feels no DAMP", damp.lands(0, 0, 0, 0, 0), 12);
    }

    private static void promise17() {
        WordFletchers x = of("p10 0;p10 0;p13 0;p7 0;p16 0;p29 0;s3 0 0;");
        due("17: at the same place, PLAIN", x.call(0, 1, 0), 0);
        due("17: 3 up by a SWAN", x.call(0, 2, 0), 111);
        due("17: 3 down by a SWAN", x.call(0, 3, 0), 110);
        due("17: 6 up by three GEESE", x.call(0, 4, 0), 31);
        due("17: 19 up not at all", x.call(0, 5, 0), NONE);
        due("17: by who doesn't know it", x.call(2, 4, 0), 111);
        due("17: alike", x.call(0, 0, 0), BAD);
        due("17: bad one", x.call(6, 0, 0), BAD);
        due("17: bad one", x.call(-1, 0, 0), BAD);
        due("17: bad other", x.call(0, 6, 0), BAD);
        due("17: bad other", x.call(0, -1, 0), BAD);
        due("17: bad saying", x.call(0, 1, 1), BAD);
        due("17: bad saying", x.call(0, 1, -1), BAD);
        WordFletchers none = of("p10 0;p13 0;s3 0 0;f0 0;f1 0;f2 0;f3 0;");
        due("17: as if there were three of each", none.call(0, 1, 0), 111);
        due("17: PLAIN, side 0 first", of("p10 0;p11 5;s1 1 0;").call(0, 1, 0), 0);
        due("17: PLAIN, side 1 too", of("p10 0;p9 0;s1 1 0;").call(0, 1, 0), 1);
        due("17: fewest ahead of least kind", of("p10 0;p18 0;s1 3 0;").call(0, 1, 0), 111);
        WordFletchers later = of("p10 0;p13 0;s3 0 0;w4 7;");
        later.hours(1);
        due("17: NOW, in a WIND of 3 down by a SWAN: 10, up by a CROW: 14, HAIR 0", later.call(0, 1, 0), 331);
    }

    private static void promise18() {
        // SWAN of WEIGHT 3: 3 and the WIND
        WordFletchers x = of("p10 0;p15 0;s3 0 0;w4 5 6 7 8;");
        due("18: in 2 HOURS", x.waits(0, 1, 0, 111), 2);
        due("18: never down", x.waits(0, 1, 0, 110), NONE);
        x.hours(3);
        due("18: in 4 HOURS", x.waits(0, 1, 0, 111), 4);
        due("18: HAIR never", x.waits(0, 1, 0, 331), NONE);
        x.damps(1);
        due("18: in DAMP in 0 HOURS", x.waits(0, 1, 0, 111), 0);
        due("18: nothing went by", x.now(0), 3);
        due("18: alike", x.waits(0, 0, 0, 0), BAD);
        due("18: bad one", x.waits(2, 0, 0, 0), BAD);
        due("18: bad other", x.waits(0, -1, 0, 0), BAD);
        due("18: bad saying", x.waits(0, 1, 1, 0), BAD);
        int[] noShots = {-1, 2, 9, 12, 40, 99, 102, 140, 190, 332, 400, Integer.MIN_VALUE, Integer.MAX_VALUE};
        for (int shot : noShots) {
            due("18: no shot " + shot, x.waits(0, 1, 0, shot), BAD);
            due("21: no shot " + shot, x.odds(0, 1, 0, shot, 0), BAD);
        }
        WordFletchers plain = of("p10 0;p13 0;s3 1 0;w4 5 6;");
        due("18: PLAIN up", plain.waits(0, 1, 0, 0), 2);
        due("18: PLAIN, whatever the FEATHER", plain.waits(0, 1, 0, 300), 2);
        due("18: PLAIN down", plain.waits(0, 1, 0, 201), NONE);
        WordFletchers six = of("p10 0;p15 0;s3 0 0;w4 4 4 4 4 6;");
        six.hours(6);
        due("18: in 5 HOURS", six.waits(0, 1, 0, 111), 5);
    }

    private static void promise19() {
        WordFletchers x = of("p0 0;p3 0;p6 0;p30 0;s3 0 0;f1 0;f0 0;");
        due("19: he knows it", x.relay(0, 0, 0), 0);
        due("19: by none", x.relay(0, 0, 1), NONE);
        due("19: by none", x.relay(0, 0, 2), NONE);
        due("19: one", x.relay(0, 1, 0), 1);
        due("19: by 0", x.relay(0, 1, 1), 0);
        due("19: two GEESE ahead of one SWAN, as the least kind counts first", x.relay(0, 1, 2), 21);
        due("19: one by three GEESE", x.relay(0, 2, 0), 1);
        due("19: by three GEESE", x.relay(0, 2, 2), 31);
        due("19: not to 30", x.relay(0, 3, 0), NONE);
        due("19: not to 30", x.relay(0, 3, 1), NONE);
        due("19: not to 30", x.relay(0, 3, 2), NONE);
        due("19: nothing is told", x.saying(0, 3), 1);
        due("19: bad saying", x.relay(1, 0, 0), BAD);
        due("19: bad saying", x.relay(-1, 0, 0), BAD);
        due("19: bad one", x.relay(0, 4, 0), BAD);
        due("19: bad one", x.relay(0, -1, 0), BAD);
        due("19: bad what", x.relay(0, 0, 3), BAD);
        due("19: bad what", x.relay(0, 0, -1), BAD);
        // TWIST 3 and WEIGHT 9: GOOSE 0, 0, 3; SWAN 0, 6, 12; CROW 0, 2, 6; HAIR 0; PLAIN 3
        WordFletchers chain = of("p0 0;p3 0;p9 0;p11 0;p13 0;s9 3 0;");
        due("19: 0 to 3, 9, 11, 13: 3 or 12 away from 0", chain.relay(0, 4, 0), 4);
        due("19: first by 0", chain.relay(0, 4, 1), 0);
        due("19: PLAIN of side 0 goes up", chain.relay(0, 4, 2), 0);
        // WEIGHT 3: GOOSE 0, 3, 6; SWAN 3, 9, 15; CROW 1, 5, 9; HAIR 0, 1, 3
        WordFletchers many = of("p20 0;p3 0;p4 0;p5 0;s3 0 1;");
        due("19: 3 to 4, to 5, to 20", many.relay(0, 0, 0), 3);
        due("19: by 1", many.relay(0, 0, 1), 1);
        due("19: by a CROW", many.relay(0, 0, 2), 211);
        many = of("p15 0;p3 0;p9 0;p9 0;s3 0 1;");
        many.lets(1, 0, 0, 3, 1);
        due("19: who knows it now", many.saying(0, 3), 14);
        due("19: the lowest of those who know it", many.relay(0, 0, 1), 2);
        due("19: side 1", many.relay(0, 0, 2), 31);
        WordFletchers windy = of("p10 0;p13 0;s3 0 0;w5;");
        due("19: in a WIND of 1, by HAIR", windy.relay(0, 1, 2), 331);
        windy.damps(1);
        due("19: in DAMP, by two GEESE", windy.relay(0, 1, 2), 21);
    }

    private static void promise20() {
        // WEIGHT 3: GOOSE 0, 3, 6; SWAN 3, 9, 15; CROW 1, 5, 9; HAIR 0, 1, 3
        WordFletchers x = of("p10 0;p13 0;s3 0 0;s3 0 0;f0 2;f1 1;");
        due("20: one by a SWAN", x.allot(1, 0), 11);
        due("20: how many", x.allot(1, -1), 1);
        due("20: two: how many", x.allot(3, -1), 3);
        due("20: two: the first by two GEESE", x.allot(3, 0), 2);
        due("20: two: the second by a SWAN", x.allot(3, 1), 11);
        due("20: the second alone by a SWAN", x.allot(2, 1), 11);
        due("20: not of the set", x.allot(2, 0), BAD);
        due("20: not of the set", x.allot(1, 1), BAD);
        due("20: no set", x.allot(0, -1), BAD);
        due("20: no set", x.allot(4, -1), BAD);
        due("20: no set", x.allot(-1, -1), BAD);
        due("20: no saying", x.allot(3, 2), BAD);
        due("20: no saying", x.allot(3, -2), BAD);
        x.lets(0, 0, 1, 1, 1);
        due("20: three HAIRS are dearer than two GEESE", x.allot(1, 0), 2);
        due("20: by GEESE and HAIRS", x.allot(3, -1), 5);
        due("20: the first by GEESE", x.allot(3, 0), 2);
        due("20: the second by HAIRS", x.allot(3, 1), 33);
        WordFletchers none = of("p10 0;p13 0;s3 0 0;s3 0 0;f0 3;f1 0;f3 2;");
        due("20: one by GEESE", none.allot(1, -1), 2);
        due("20: two by none", none.allot(3, -1), NONE);
        due("20: two by none", none.allot(3, 0), NONE);
        WordFletchers plain = of("p10 0;p8 0;s3 2 0;s9 0 0;");
        due("20: PLAIN goes down", plain.allot(1, 0), 0);
        due("20: PLAIN takes none", plain.allot(1, -1), 0);
        due("20: both by none", plain.allot(3, -1), NONE);
        WordFletchers up = of("p10 0;p12 0;s3 2 0;");
        due("20: PLAIN doesn't go up: GOOSE 2", up.allot(1, 0), 1);
        WordFletchers first = of("p10 0;p13 0;s3 0 1;");
        due("20: by its FIRST alone, up", first.allot(1, 0), NONE);
        // each by two GEESE, a SWAN or three HAIRS
        WordFletchers six = of("p10 0;p13 0;s3 0 0;s3 0 0;s3 0 0;s3 0 0;s3 0 0;s3 0 0;f0 2;f1 2;");
        int[] shares = {2, 11, 11, 33, 33, 33};
        due("20: six: how many", six.allot(63, -1), 13);
        for (int s = 0; s < 6; s++) due("20: six: of " + s, six.allot(63, s), shares[s]);
        due("20: three of six: how many", six.allot(42, -1), 4);
        due("20: three of six: the first", six.allot(42, 1), 2);
        due("20: three of six: the second", six.allot(42, 3), 11);
        due("20: three of six: the third", six.allot(42, 5), 11);
        due("20: nothing is gone", six.now(3), 2);
    }

    private static void promise21() {
        // SWAN of WEIGHT 3: 3 and the WIND: 13, 13, 14, 15, 9, 13
        WordFletchers x = of("p10 0;p13 0;p15 1;s3 0 0;w4 4 5 6 0 4;");
        due("21: three of six, upper", x.odds(0, 1, 0, 111, 0), 1);
        due("21: three of six, lower", x.odds(0, 1, 0, 111, 1), 2);
        due("21: two of six, upper", x.odds(0, 2, 0, 111, 0), 1);
        due("21: two of six, lower", x.odds(0, 2, 0, 111, 1), 3);
        due("21: none, upper", x.odds(0, 2, 0, 110, 0), 0);
        due("21: none, lower", x.odds(0, 2, 0, 110, 1), 1);
        due("21: HAIR, upper", x.odds(0, 1, 0, 331, 0), 1);
        due("21: HAIR, lower", x.odds(0, 1, 0, 331, 1), 1);
        x.hours(4);
        due("21: whatever the HOUR", x.odds(0, 1, 0, 111, 1), 2);
        x.damps(1);
        due("21: in DAMP 12, 12, 13, 14, 8, 12: upper", x.odds(0, 1, 0, 111, 0), 1);
        due("21: in DAMP, lower", x.odds(0, 1, 0, 111, 1), 6);
        due("21: alike", x.odds(0, 0, 0, 0, 0), BAD);
        due("21: bad one", x.odds(3, 0, 0, 0, 0), BAD);
        due("21: bad other", x.odds(0, 3, 0, 0, 0), BAD);
        due("21: bad saying", x.odds(0, 1, 1, 0, 0), BAD);
        due("21: bad what", x.odds(0, 1, 0, 0, 2), BAD);
        due("21: bad what", x.odds(0, 1, 0, 0, -1), BAD);
    }

    private static void promises22To24() {
        // WEIGHT 3: 0, 3, 6, 9, 15, 1, 5 away
        WordFletchers x = of("p10 0;p12 0;p30 0;s3 0 0;s9 0 0;");
        due("24: all", x.who(), 7);
        due("22: at 15", x.saw(0, 15), 1);
        due("24: 5 or 3 or 15 away", x.who(), 7);
        due("22: at 13", x.saw(0, 13), 2);
        due("24: 3 or 1 away; not 17", x.who(), 3);
        due("22: at 18", x.saw(0, 18), 3);
        due("24: 6, not 8", x.who(), 2);
        due("22: bad", x.saw(2, 0), BAD);
        due("22: bad", x.saw(-1, 0), BAD);
        due("22: bad", x.saw(0, 31), BAD);
        due("22: bad", x.saw(0, -1), BAD);
        due("22: at 30", x.saw(0, 30), 4);
        due("24: 18 away", x.who(), 0);
        due("22: full", x.saw(0, 0), FULL);
        due("22: BAD is ahead of FULL", x.saw(2, 0), BAD);
        due("22: count(3)", x.count(3), 4);
        due("23: forget", x.forget(), 4);
        due("23: forget again", x.forget(), 0);
        due("24: all again", x.who(), 7);
        due("22: SEEN isn't undone", x.undo(), STATE);
        x.saw(1, 10);
        due("24: at his feet", x.who(), 1);
        x.forget();
        x.saw(1, 11);
        due("24: the second is never 1 off", x.who(), 0);
        x.forget();
        due("22: first again", x.saw(1, 22), 1);
        due("24: 9 by three SWANS is 19, by three CROWS 3", x.who(), 0);
        thenAndNow();
    }

    /** What was SEEN stays as it was told: in the HOUR and DAMP that were NOW then. */
    private static void thenAndNow() {
        // CROW alone: WEIGHT 9, TWIST 0, three: 3 and the WIND
        WordFletchers x = of("p10 0;p20 0;s9 0 0;w8 4;");
        due("22: in a WIND of 4", x.saw(0, 17), 1);
        due("24: 3 and 4 up; three SWANS 9 down to 11, up to 33", x.who(), 1);
        x.hours(1);
        due("24: an HOUR later it stays", x.who(), 1);
        due("22: in no WIND", x.saw(0, 13), 2);
        due("24: both", x.who(), 1);
        x.undo();
        due("24: HOURS undone", x.who(), 1);
        x.forget();
        x.hours(1);
        x.saw(0, 19);
        due("24: 9 by three SWANS", x.who(), 1);
        x.damps(3);
        due("24: in DAMP it stays", x.who(), 1);
        x.forget();
        x.saw(0, 19);
        due("24: in DAMP 6", x.who(), 0);
    }

    private static void promise25() {
        due("25: no sayings", of("p0 0;p1 0;").ask(), NONE);
        due("25: one", of("p0 0;s9 0 0;").ask(), NONE);
        // s0 (WEIGHT 9): 0, 3, 9 away (SWAN 3, 9, CROW 3): from 15: 5 places; from 16: 5
        // s1 (WEIGHT 1): 2, 5, 8; 5, 11, 17; 3, 7, 11; 1, 3, 5; 0: from 15 not 17 away, from
        // 16 and 14 17 away neither (33, -1; 31, -3): alike; from 13: 30, from 17: 0
        WordFletchers x = of("p15 0;p13 0;s9 0 0;s1 0 0;");
        due("25: the second tells them apart", x.ask(), 1);
        x = of("p15 0;p16 0;s9 0 0;s1 0 0;");
        due("25: neither does: the lowest", x.ask(), 0);
        x = of("p15 0;p15 0;p13 0;s9 0 0;s1 0 0;");
        due("25: two alike are less than three", x.ask(), 1);
        x.saw(0, 15);
        due("25: two are left", x.who(), 3);
        due("25: they are alike: the lowest", x.ask(), 0);
        x.saw(0, 0);
        due("25: nobody is left", x.ask(), NONE);
        x.forget();
        x.damps(4);
        // s1 in DAMP 4: GOOSE 0, 1, 4; SWAN 1, 7, 13; CROW 3, 7, 11; HAIR 0, 1: none beyond the row
        due("25: in DAMP alike", x.ask(), 0);
        x = of("p15 0;p13 0;s9 0 0;s1 0 0;w4 2;");
        due("25: in no WIND the second", x.ask(), 1);
        x.hours(1);
        due("25: in a WIND of -2: 13 goes down to -6 and up to 28, 15 to -4 and 30", x.ask(), 0);
    }

    private static void promise26() {
        WordFletchers x = of("p3 0;p10 0;s9 0 1;s8 0 1;f0 1;f1 2;f2 3;f3 4;");
        x.damps(5);
        due("26: ONE", x.mark(0, 1), 10);
        due("30: ONE", x.trace(), 1);
        due("26: SUITOR", x.mark(1, 1), 12);
        due("30: SUITOR", x.trace(), 12);
        due("26: LIAR", x.mark(2, 0), -2);
        due("30: LIAR", x.trace(), 113);
        due("26: POET", x.mark(3, 1), 24);
        due("30: POET", x.trace(), 1124);
        due("26: LAWYER", x.mark(4, 1), 6);
        due("30: LAWYER", x.trace(), 11225);
        due("26: GOOSE", x.mark(5, 1), 20);
        due("30: GOOSE", x.trace(), 111226);
        due("26: bad kind", x.mark(6, 0), NO);
        due("26: bad kind", x.mark(-1, 0), NO);
        due("26: bad one", x.mark(0, 2), NO);
        due("26: bad one", x.mark(0, -1), NO);
        due("30: nothing more", x.trace(), 111226);
        x.keep(0);
        x.mark(0, 0);
        x.undo();
        x.back(0);
        due("30: neither undone nor of an IMAGE", x.trace(), 111227);
        write(x, "p0 0;");
        x.uplands();
        due("30: it stays", x.trace(), 111227);
    }

    private static void promises27And28() {
        WordFletchers x = of("p15 0;p18 0;s1 0 0;s9 0 0;");
        due("27: bad", x.keep(2), BAD);
        due("27: bad", x.keep(-1), BAD);
        due("28: bad", x.back(2), BAD);
        due("28: bad", x.back(-1), BAD);
        x.hours(3);
        x.lets(0, 1, 0, 0, 0);
        due("27: keep(1)", x.keep(1), 3);
        due("28: none in 0", x.back(0), STATE);
        due("27: keep isn't undone", x.count(4), 2);
        x.saw(0, 4);
        x.hours(2);
        x.damps(4);
        x.undo();
        x.undo();
        x.undo();
        x.undo();
        x.lets(0, 0, 2, 1, 1);
        x.plucks(0, 4);
        write(x, "pp");
        due("28: back(1)", x.back(1), 3);
        int[] nows = {3, 0, 9, 9, 9, 9, 1};
        for (int i = 0; i < 7; i++) due("28: now(" + i + ")", x.now(i), nows[i]);
        due("28: who knows what", x.saying(0, 3), 1);
        due("28: what lies", x.stray(0, 0), 1);
        due("28: SEEN stays", x.count(3), 1);
        due("28: THE TEXT stays", x.count(5), 2);
        due("28: what may be undone", x.undo(), 1);
        due("28: nothing lies", x.now(6), 0);
        due("28: what may be undone", x.undo(), 0);
        due("28: HOUR 0", x.now(0), 0);
        due("28: back(1) again", x.back(1), 3);
        due("28: to be undone again", x.count(4), 2);
        due("27: keep(0)", x.keep(0), 3);
        x.hours(1);
        due("27: keep(1) anew", x.keep(1), 4);
        due("28: back(0)", x.back(0), 3);
        due("28: back(1)", x.back(1), 4);
        due("28: three to be undone", x.count(4), 3);
        for (int i = 0; i < 12; i++) x.hours(1);
        due("28: back(1), ten steps later", x.back(1), 4);
        due("28: undo()", x.undo(), 2);
        due("28: the HOUR undone", x.now(0), 3);
        due("28: one lies", x.now(6), 1);
        due("28: undo()", x.undo(), 1);
        due("28: none lies", x.now(6), 0);
        due("28: HOUR 3 still", x.now(0), 3);
        due("28: undo()", x.undo(), 0);
        due("28: HOUR 0 again", x.now(0), 0);
        due("28: 9 GEESE again", x.now(2), 9);
    }

    private static void promise29() {
        WordFletchers x = of("p15 0;p18 0;p1 1;s1 0 0;s9 0 0;w1 2 3 4 5;");
        x.saw(0, 0);
        x.hours(1);
        x.hours(1);
        x.hours(1);
        x.hours(1);
        x.type(0);
        x.type(1);
        x.type(2);
        x.type(3);
        x.type(4);
        x.type(5);
        int[] counts = {3, 2, 5, 1, 4, 6};
        for (int i = 0; i < 6; i++) due("29: count(" + i + ")", x.count(i), counts[i]);
        due("29: count(6)", x.count(6), BAD);
        due("29: count(-1)", x.count(-1), BAD);
    }

    private static void constants() {
        due("BAD", WordFletchers.BAD, BAD);
        due("STATE", WordFletchers.STATE, STATE);
        due("FULL", WordFletchers.FULL, FULL);
        due("NONE", WordFletchers.NONE, NONE);
        due("NO", WordFletchers.NO, NO);
    }

    public static void main(String[] args) {
        promise1();
        promises2And3();
        promise4();
        promises5And6();
        promise7();
        promise8();
        promise9();
        promise10();
        promise11();
        promise12();
        promise13();
        promise14();
        promise14Knowing();
        promise15();
        promise16();
        promise17();
        promise18();
        promise19();
        promise20();
        promise21();
        promises22To24();
        promise25();
        promise26();
        promises27And28();
        promise29();
        constants();
        System.out.println(wrong == 0 ? "all promises are kept" : wrong + " answers are not as due");
        if (wrong != 0) System.exit(1);
    }
}
