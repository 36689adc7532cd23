/** Boundary cases of what is told, of SHOTS and of what is done: section 2, promises 5 to 15. */
final class DoneBounds {
    private DoneBounds() { }

    // WEIGHT 3, TWIST 0: GOOSE flies 0, 3, 6; SWAN 3, 9, 15; CROW 1, 5, 9; HAIR 0, 1, 3; PLAIN 0
    private static final String SAYING3 = "s3 0 0;";
    private static final String ALONE = "p15 0;";

    static void run() {
        shots();
        landing();
        lettingOff();
        lying();
        doing();
        undoing();
        asking();
        promises9To15();
    }

    private static WordFletchers two() {
        return Bounds.of("p15 0;p20 0;s3 0 0;s1 3 1;w4 5;f0 2;");
    }

    private static void shots() {
        Bounds.sentence("Terms", "The HOUR is 0 at first, DAMP 0; nothing LIES", () -> {
            WordFletchers x = Bounds.of(ALONE + "s9 0 0;");
            for (int i = 0; i < 2; i++) {
                Bounds.due("the HOUR", x.now(0), 0);
                Bounds.due("DAMP", x.now(1), 0);
                Bounds.due("how many LIE", x.now(6), 0);
                Bounds.due("what LIES", x.stray(0, 0), Bounds.NONE);
                Bounds.due("where it LIES", x.stray(0, 1), Bounds.NONE);
                x.hours(9);
                x.damps(5);
                x.lets(0, 0, 0, 0, 0);
                Bounds.type(x, ALONE + "s9 0 0;");
                x.uplands();
            }
        });
        Bounds.sentence("Terms", "A SHOT is a FEATHER (0 .. 3), how many (0 .. 3;", () -> {
            Bounds.bounds("lets", DoneBounds::two, (x, n) -> x.lets(0, 0, n[0], n[1], 1), Bounds.BAD, Bounds.to(0, 3), Bounds.to(0, 3));
            Bounds.bounds("lands", DoneBounds::two, (x, n) -> x.lands(0, 0, n[0], n[1], 1), Bounds.BAD, Bounds.to(0, 3), Bounds.to(0, 3));
            // GOOSE 3, SWAN 6, CROW 4, HAIR 2 of LIFT: of TWIST 2 and WEIGHT 1
            WordFletchers x = Bounds.of("p10 0;s1 2 0;");
            int[][] flights = {{4, 7, 10}, {7, 13, 19}, {5, 9, 13}, {3, 5, 7}};
            for (int feather = 0; feather < 4; feather++) {
                for (int n = 1; n <= 3; n++) {
                    Bounds.due("FLIGHT of " + n + " of " + feather, x.lands(0, 0, feather, n, 1) - 10, flights[feather][n - 1]);
                }
            }
        });
        Bounds.sentence("Terms", "0: PLAIN, whatever the FEATHER", () -> {
            WordFletchers x = Bounds.of("p10 0;s9 2 0;f0 0;f1 0;f2 0;f3 0;w5;");
            for (int feather = 0; feather < 4; feather++) {
                Bounds.due("PLAIN of " + feather + ", side 0", x.lands(0, 0, feather, 0, 0), 13);
                Bounds.due("PLAIN of " + feather + ", side 1", x.lands(0, 0, feather, 0, 1), 9);
                Bounds.due("it takes none", x.lets(0, 0, feather, 0, 1), 0);
                Bounds.due("none there still", x.now(2 + feather), 0);
            }
            Bounds.due("no FEATHER 4, PLAIN, too", x.lands(0, 0, 4, 0, 0), Bounds.BAD);
            Bounds.due("no FEATHER -1, PLAIN, too", x.lands(0, 0, -1, 0, 0), Bounds.BAD);
        });
        Bounds.sentence("Terms", "a side (0 down, 1 up the row)", () -> {
            WordFletchers x = Bounds.of("p10 0;" + SAYING3);
            Bounds.due("down", x.lands(0, 0, 1, 1, 0), 7);
            Bounds.due("up", x.lands(0, 0, 1, 1, 1), 13);
            Bounds.bounds("lets", DoneBounds::two, (y, n) -> y.lets(0, 0, 1, 1, n[0]), Bounds.BAD, Bounds.to(0, 1));
            Bounds.bounds("lands", DoneBounds::two, (y, n) -> y.lands(0, 0, 1, 1, n[0]), Bounds.BAD, Bounds.to(0, 1));
        });
        Bounds.sentence("Terms", "less DAMP (not for CROW), 0 at least", () -> {
            // WEIGHT 9, TWIST 3: two GEESE and a CROW would be 0 and -2, two SWANS 6, three HAIRS 0
            WordFletchers x = Bounds.of("p10 0;s9 3 0;");
            Bounds.due("0", x.lands(0, 0, 0, 2, 1), 10);
            Bounds.due("below 0", x.lands(0, 0, 2, 1, 1), 10);
            Bounds.due("below 0, down", x.lands(0, 0, 3, 1, 0), 10);
            Bounds.due("3", x.lands(0, 0, 0, 3, 1), 13);
            x.damps(2);
            Bounds.due("3 in DAMP 2", x.lands(0, 0, 0, 3, 1), 11);
            x.damps(3);
            Bounds.due("3 in DAMP 3", x.lands(0, 0, 0, 3, 1), 10);
            x.damps(5);
            Bounds.due("3 in DAMP 5", x.lands(0, 0, 0, 3, 1), 10);
            Bounds.due("SWANS' 6 in DAMP 5", x.lands(0, 0, 1, 2, 1), 11);
            Bounds.due("CROWS' 6 in DAMP 5", x.lands(0, 0, 2, 3, 1), 16);
            Bounds.due("CROWS' 2 in DAMP 5", x.lands(0, 0, 2, 2, 1), 12);
        });
        Bounds.sentence("Terms", "PLAIN: TWIST, and it goes to the other side", () -> {
            WordFletchers x = Bounds.of("p10 0;s9 0 0;s9 1 0;s9 3 0;");
            int[] twists = {0, 1, 3};
            for (int damp = 0; damp < 6; damp++) {
                for (int s = 0; s < 3; s++) {
                    Bounds.due("side 0 in DAMP " + damp, x.lands(0, s, 0, 0, 0), 10 + twists[s]);
                    Bounds.due("side 1 in DAMP " + damp, x.lands(0, s, 0, 0, 1), 10 - twists[s]);
                }
                x.damps(damp + 1);
            }
        });
    }

    private static void landing() {
        Bounds.sentence("Terms", "as many more (or less) as the WIND is (up the row, if above 0", () -> {
            WordFletchers x = Bounds.of("p10 0;" + SAYING3 + "w0 3 4 5 8;");
            int[] winds = {-4, -1, 0, 1, 4};
            for (int h = 0; h < 5; h++) {
                Bounds.due("up in a WIND of " + winds[h], x.lands(0, 0, 1, 1, 1), 13 + winds[h]);
                Bounds.due("down in a WIND of " + winds[h], x.lands(0, 0, 1, 1, 0), 7 + winds[h]);
                x.hours(1);
            }
        });
        Bounds.sentence("Terms", "not, if FLIGHT is 0", () -> {
            WordFletchers x = Bounds.of("p10 0;" + SAYING3 + "s3 1 0;w8;");
            Bounds.due("a GOOSE's 0", x.lands(0, 0, 0, 1, 1), 10);
            Bounds.due("PLAIN of TWIST 0", x.lands(0, 0, 0, 0, 1), 10);
            Bounds.due("a CROW's 1", x.lands(0, 0, 2, 1, 0), 13);
            Bounds.due("PLAIN of TWIST 1", x.lands(0, 1, 0, 0, 0), 15);
            x.damps(3);
            Bounds.due("a SWAN's 0 in DAMP", x.lands(0, 0, 1, 1, 0), 10);
        });
        Bounds.sentence("Terms", "not for HAIR that is not PLAIN", () -> {
            WordFletchers x = Bounds.of("p10 0;s3 1 0;w8;");
            Bounds.due("HAIRS' 4", x.lands(0, 0, 3, 3, 1), 14);
            Bounds.due("HAIRS' 2", x.lands(0, 0, 3, 2, 0), 8);
            Bounds.due("CROWS' 2", x.lands(0, 0, 2, 1, 0), 12);
            Bounds.due("HAIR that is PLAIN", x.lands(0, 0, 3, 0, 0), 15);
            Bounds.due("HAIR that is PLAIN, down", x.lands(0, 0, 3, 0, 1), 13);
        });
        Bounds.sentence("Terms", "beyond 0 .. 30 nowhere", () -> {
            Bounds.due("3 down from 3", Bounds.of("p3 0;" + SAYING3).lands(0, 0, 1, 1, 0), 0);
            Bounds.due("3 down from 2", Bounds.of("p2 0;" + SAYING3).lands(0, 0, 1, 1, 0), Bounds.NONE);
            Bounds.due("3 up from 27", Bounds.of("p27 0;" + SAYING3).lands(0, 0, 1, 1, 1), 30);
            Bounds.due("3 up from 28", Bounds.of("p28 0;" + SAYING3).lands(0, 0, 1, 1, 1), Bounds.NONE);
            Bounds.due("a WIND back from 31", Bounds.of("p28 0;w3;" + SAYING3).lands(0, 0, 1, 1, 1), 30);
            Bounds.due("a WIND back from -1", Bounds.of("p2 0;w5;" + SAYING3).lands(0, 0, 1, 1, 0), 0);
            Bounds.due("a WIND on from 30", Bounds.of("p27 0;w5;" + SAYING3).lands(0, 0, 1, 1, 1), Bounds.NONE);
            Bounds.due("a WIND on from 0", Bounds.of("p3 0;w3;" + SAYING3).lands(0, 0, 1, 1, 0), Bounds.NONE);
            WordFletchers x = Bounds.of("p30 0;p30 5;p0 5;" + SAYING3);
            Bounds.due("nobody hears it above", x.lets(0, 0, 1, 1, 1), 0);
            Bounds.due("it LIES nowhere", x.now(6), 0);
            Bounds.due("the FEATHER is gone", x.now(3), 8);
            Bounds.due("it can be UNDONE", x.undo(), 0);
            Bounds.due("the FEATHER is there", x.now(3), 9);
            x = Bounds.of("p0 0;p0 5;p30 5;" + SAYING3);
            Bounds.due("nobody hears it below", x.lets(0, 0, 1, 1, 0), 0);
            Bounds.due("it LIES nowhere", x.now(6), 0);
            Bounds.due("at 0 one hears it", x.lets(0, 0, 0, 0, 0), 2);
        });
    }

    private static void lettingOff() {
        Bounds.sentence("Terms", "by one who KNOWS it", () -> {
            WordFletchers x = Bounds.of("p15 0;p15 0;p14 0;" + SAYING3);
            Bounds.due("who doesn't yet", x.lets(1, 0, 0, 0, 0), Bounds.STATE);
            x.lets(0, 0, 0, 0, 0);
            Bounds.due("who heard it", x.lets(1, 0, 0, 0, 0), 1);
            Bounds.due("who still doesn't", x.lets(2, 0, 0, 0, 0), Bounds.STATE);
        });
        Bounds.sentence("Terms", "by a SHOT for which there are the FEATHERS (they are gone)", () -> {
            WordFletchers x = Bounds.of(ALONE + SAYING3 + "f0 3;f1 2;f2 0;f3 1;");
            Bounds.due("three of two", x.lets(0, 0, 1, 3, 1), Bounds.STATE);
            Bounds.due("two of two", x.lets(0, 0, 1, 2, 1), 0);
            Bounds.due("none left", x.now(3), 0);
            Bounds.due("one of none", x.lets(0, 0, 1, 1, 1), Bounds.STATE);
            Bounds.due("none of none", x.lets(0, 0, 1, 0, 1), 0);
            Bounds.due("three of three", x.lets(0, 0, 0, 3, 1), 0);
            Bounds.due("one of none at first", x.lets(0, 0, 2, 1, 1), Bounds.STATE);
            Bounds.due("two of one", x.lets(0, 0, 3, 2, 1), Bounds.STATE);
            Bounds.due("one of one", x.lets(0, 0, 3, 1, 1), 0);
            for (int kind = 0; kind < 4; kind++) Bounds.due("all are gone", x.now(2 + kind), 0);
        });
        Bounds.sentence("Terms", "all others whose PLACE is no farther than EAR from where it LANDS hear it", () -> {
            WordFletchers x = Bounds.of("p15 5;p10 5;p20 5;p9 5;p21 5;p16 0;" + SAYING3);
            Bounds.due("5 off, not 6, nor 1 by EAR 0, nor he himself", x.lets(0, 0, 0, 0, 0), 6);
            Bounds.due("who KNOWS it", x.saying(0, 3), 7);
            x = Bounds.of("p15 0;p15 0;p14 1;p16 1;p13 1;p17 1;" + SAYING3);
            Bounds.due("0 off by EAR 0, 1 off by EAR 1", x.lets(0, 0, 0, 0, 0), 14);
            x = Bounds.of("p0 0;p5 5;p30 5;" + SAYING3);
            Bounds.due("5 off at the row's end", x.lets(0, 0, 0, 0, 0), 2);
        });
        Bounds.sentence("Terms", "If nobody does (who knew it ahead counts, too), it LIES there", () -> {
            WordFletchers x = Bounds.of("p15 0;p15 0;" + SAYING3);
            Bounds.due("one hears it", x.lets(0, 0, 0, 0, 0), 2);
            Bounds.due("who knew it ahead hears it", x.lets(0, 0, 0, 0, 0), 2);
            Bounds.due("nothing LIES", x.now(6), 0);
            Bounds.due("nobody hears it", x.lets(0, 0, 1, 1, 1), 0);
            Bounds.due("it LIES", x.now(6), 1);
            Bounds.due("there", x.stray(0, 1), 18);
            Bounds.due("the SAYING", x.stray(0, 0), 0);
            Bounds.due("he himself doesn't count", Bounds.of(ALONE + SAYING3).lets(0, 0, 0, 0, 0), 0);
        });
    }

    // SAYING s of WEIGHT 9 and TWIST s, PLAIN from 15: side 0 to 15 + s, side 1 to 15 - s
    private static final int[][] PLAIN_ONES = {{0, 0}, {1, 0}, {1, 1}, {2, 0}, {2, 1}, {3, 0}, {3, 1}, {0, 1}, {1, 0}, {2, 1}};

    private static WordFletchers lying(int many) {
        WordFletchers x = Bounds.of("p15 0;s9 0 0;s9 1 0;s9 2 0;s9 3 0;");
        for (int i = 0; i < many; i++) x.lets(0, PLAIN_ONES[i][0], 0, 0, PLAIN_ONES[i][1]);
        return x;
    }

    private static void lie(String what, WordFletchers x, int... which) {
        Bounds.due(what + ": how many", x.now(6), which.length);
        for (int i = 0; i < 8; i++) {
            int s = i < which.length ? PLAIN_ONES[which[i]][0] : Bounds.NONE;
            int place = i < which.length ? PLAIN_ONES[which[i]][1] == 0 ? 15 + s : 15 - s : Bounds.NONE;
            Bounds.due(what + ": SAYING of " + i, x.stray(i, 0), s);
            Bounds.due(what + ": PLACE of " + i, x.stray(i, 1), place);
        }
    }

    private static void lying() {
        Bounds.sentence("Terms", "(8 lie at most, older ones are lost)", () -> {
            lie("seven", lying(7), 0, 1, 2, 3, 4, 5, 6);
            lie("eight", lying(8), 0, 1, 2, 3, 4, 5, 6, 7);
            lie("nine", lying(9), 1, 2, 3, 4, 5, 6, 7, 8);
            lie("ten", lying(10), 2, 3, 4, 5, 6, 7, 8, 9);
            WordFletchers x = lying(10);
            x.undo();
            lie("ten, and one UNDONE", x, 1, 2, 3, 4, 5, 6, 7, 8);
            x.undo();
            lie("ten, and two UNDONE", x, 0, 1, 2, 3, 4, 5, 6, 7);
            x.undo();
            lie("ten, and three UNDONE", x, 0, 1, 2, 3, 4, 5, 6);
            x = lying(8);
            Bounds.due("the longest of eight", x.picks(0), 0);
            x.lets(0, 1, 0, 0, 0);
            lie("seven and another", x, 1, 2, 3, 4, 5, 6, 7, 8);
            WordFletchers high = Bounds.of("p28 0;s9 3 0;");
            high.lets(0, 0, 2, 2, 0);
            for (int i = 0; i < 7; i++) high.lets(0, 0, 0, 0, 1);
            high.lets(0, 0, 1, 3, 1);
            Bounds.due("what LANDS nowhere costs none of eight", high.now(6), 8);
            Bounds.due("the longest is there still", high.stray(0, 1), 26);
        });
        Bounds.sentence("Terms", "PICKED up: by one, the SAYING that LIES at his PLACE longest: he KNOWS it", () -> {
            WordFletchers x = lying(8);
            Bounds.due("the longest at 15", x.picks(0), 0);
            lie("the first is gone", x, 1, 2, 3, 4, 5, 6, 7);
            Bounds.due("the last at 15", x.picks(0), 0);
            lie("the last is gone", x, 1, 2, 3, 4, 5, 6);
            Bounds.due("no more at 15", x.picks(0), Bounds.STATE);
            Bounds.due("he KNOWS it", x.one(0, 2), 15);
            // PLAIN in a WIND of 1 and of -1: from side 1 and side 0 of TWIST 1 back to 15
            WordFletchers windy = Bounds.of("p15 0;s9 1 0;s8 1 0;w5 3;");
            windy.lets(0, 1, 0, 0, 1);
            windy.lets(0, 0, 0, 0, 1);
            windy.hours(1);
            windy.lets(0, 1, 0, 0, 0);
            int[] picked = {1, 0, 1, Bounds.STATE};
            for (int s : picked) Bounds.due("picks(0)", windy.picks(0), s);
        });
    }

    private static WordFletchers undone(WordFletchers x, int many) {
        for (int i = 0; i < many; i++) x.undo();
        return x;
    }

    private static void doing() {
        Bounds.sentence("Terms", "HOURS go by (1 .. 9)", () -> {
            WordFletchers x = new WordFletchers();
            Bounds.due("hours(0)", x.hours(0), Bounds.BAD);
            Bounds.due("hours(1)", x.hours(1), 1);
            Bounds.due("hours(9)", x.hours(9), 10);
            Bounds.due("hours(10)", x.hours(10), Bounds.BAD);
            Bounds.due("the HOUR", x.now(0), 10);
            Bounds.bounds("hours", WordFletchers::new, (y, n) -> y.hours(n[0]), Bounds.BAD, Bounds.to(1, 9));
        });
        Bounds.sentence("Terms", "DAMP becomes another number (0 .. 5)", () -> {
            WordFletchers x = new WordFletchers();
            Bounds.due("damps(0)", x.damps(0), Bounds.STATE);
            Bounds.due("damps(5)", x.damps(5), 0);
            Bounds.due("damps(6)", x.damps(6), Bounds.BAD);
            Bounds.due("damps(-1)", x.damps(-1), Bounds.BAD);
            Bounds.due("DAMP", x.now(1), 5);
            Bounds.due("damps(0) again", x.damps(0), 5);
            Bounds.bounds("damps", WordFletchers::new, (y, n) -> y.damps(n[0]), Bounds.BAD, Bounds.to(0, 5));
        });
        Bounds.sentence("Terms", "n (1 .. 9) FEATHERS more of a kind (20 at most)", () -> {
            WordFletchers x = Bounds.of("f0 10;f1 11;f2 12;f3 19;");
            Bounds.due("9 to 10", x.plucks(0, 9), 19);
            Bounds.due("9 to 11", x.plucks(1, 9), 20);
            Bounds.due("9 to 12", x.plucks(2, 9), 20);
            Bounds.due("1 to 19", x.plucks(0, 1), 20);
            Bounds.due("2 to 19", x.plucks(3, 2), 20);
            Bounds.due("1 to 20", x.plucks(3, 1), Bounds.STATE);
            for (int kind = 0; kind < 4; kind++) Bounds.due("FEATHERS of " + kind, x.now(2 + kind), 20);
            Bounds.due("what was above 20 isn't UNDONE", undone(x, 3).now(4), 12);
            Bounds.bounds("plucks", WordFletchers::new, (y, n) -> y.plucks(n[0], n[1]), Bounds.BAD, Bounds.to(0, 3), Bounds.to(1, 9));
        });
        Bounds.sentence("Terms", "(What is told of who hears a SHOT holds for those but who lets it off.)", () -> {
            WordFletchers x = Bounds.of("p15 5;p15 5;" + SAYING3 + "s3 0 1;");
            Bounds.due("by the first", x.lets(0, 0, 0, 0, 0), 2);
            Bounds.due("by the second", x.lets(1, 1, 0, 0, 0), 1);
            WordFletchers alone = Bounds.of("p15 5;" + SAYING3);
            Bounds.due("by one alone", alone.lets(0, 0, 0, 0, 0), 0);
            Bounds.due("ALLOT needs another", alone.allot(1, -1), Bounds.NONE);
        });
    }

    private static void undoing() {
        Bounds.sentence("Terms", "the latest LET OFF, PICKED, GONE (HOURS of one call together), DAMP, PLUCKED", () -> {
            WordFletchers x = Bounds.of("p15 0;p18 0;" + SAYING3 + "s9 0 0;");
            String[] ahead = new String[6];
            ahead[0] = Bounds.state(x);
            x.lets(0, 1, 0, 0, 0);
            ahead[1] = Bounds.state(x);
            x.picks(0);
            ahead[2] = Bounds.state(x);
            x.hours(9);
            ahead[3] = Bounds.state(x);
            x.damps(5);
            ahead[4] = Bounds.state(x);
            x.plucks(3, 9);
            ahead[5] = Bounds.state(x);
            Bounds.due("by a SWAN", x.lets(0, 0, 1, 1, 1), 0);
            for (int i = 5; i >= 0; i--) {
                Bounds.due("undo() to " + i, x.undo(), i);
                Bounds.due("all as ahead of " + i, Bounds.state(x), ahead[i]);
            }
            Bounds.due("no more", x.undo(), Bounds.STATE);
        });
        Bounds.sentence("Terms", "(10 are known, older ones are lost): all is as ahead of it", () -> {
            for (int many = 9; many <= 13; many++) {
                WordFletchers x = new WordFletchers();
                for (int i = 0; i < many; i++) x.hours(1);
                int known = Math.min(10, many);
                Bounds.due("known of " + many, x.count(4), known);
                for (int left = known - 1; left >= 0; left--) {
                    Bounds.due("undo() of " + many, x.undo(), left);
                    Bounds.due("the HOUR of " + many, x.now(0), many - known + left);
                }
                Bounds.due("undo() of none", x.undo(), Bounds.STATE);
                Bounds.due("the HOUR stays", x.now(0), many - known);
                x.damps(1);
                Bounds.due("another one", x.undo(), 0);
            }
            WordFletchers heard = Bounds.of("p15 0;p15 0;" + SAYING3);
            heard.lets(0, 0, 0, 0, 0);
            Bounds.due("who heard it", heard.saying(0, 3), 3);
            heard.undo();
            Bounds.due("doesn't KNOW it", heard.saying(0, 3), 1);
            heard.lets(0, 0, 0, 0, 0);
            heard.lets(0, 0, 0, 0, 0);
            heard.undo();
            Bounds.due("who knew it ahead still KNOWS it", heard.saying(0, 3), 3);
        });
    }

    private static void asking() {
        Bounds.sentence("Promise 5", "0 PLACE, 1 EAR, 2 what he KNOWS (bits). BAD.", () -> {
            Bounds.bounds("one", DoneBounds::two, (x, n) -> x.one(n[0], n[1]), Bounds.BAD, Bounds.to(0, 1), Bounds.to(0, 2));
            Bounds.due("one(0, 0) of nobody", new WordFletchers().one(0, 0), Bounds.BAD);
            WordFletchers x = Bounds.of("p0 0;p0 0;s1 0 0;s1 0 0;s1 0 0;s1 0 0;s1 0 0;s1 0 0;");
            Bounds.due("who KNOWS all", x.one(0, 2), 63);
            Bounds.due("who KNOWS none", x.one(1, 2), 0);
        });
        Bounds.sentence("Promise 6", "0 WEIGHT, 1 TWIST, 2 FIRST, 3 who KNOWS it (bits). BAD.", () -> {
            Bounds.bounds("saying", DoneBounds::two, (x, n) -> x.saying(n[0], n[1]), Bounds.BAD, Bounds.to(0, 1), Bounds.to(0, 3));
            Bounds.due("saying(0, 0) of none", Bounds.of("p0 0;").saying(0, 0), Bounds.BAD);
            WordFletchers x = Bounds.of("p0 0;p0 0;p0 0;p0 0;p0 0;p0 0;s1 0 5;");
            Bounds.due("FIRST", x.saying(0, 2), 5);
            x.lets(5, 0, 0, 0, 0);
            Bounds.due("all KNOW it", x.saying(0, 3), 63);
            Bounds.due("FIRST stays", x.saying(0, 2), 5);
        });
        Bounds.sentence("Promise 7", "in n (0 .. 99) HOURS. NO: BAD.", () -> {
            Bounds.bounds("wind", DoneBounds::two, (x, n) -> x.wind(n[0]), Bounds.NO, Bounds.to(0, 99));
            WordFletchers x = Bounds.of("w3 0;");
            Bounds.due("a WIND of -1 is none of the refusals", x.wind(0), -1);
            Bounds.due("wind(99)", x.wind(99), -4);
            Bounds.due("wind(100)", x.wind(100), Bounds.NO);
            Bounds.due("wind(-1)", x.wind(-1), Bounds.NO);
        });
        Bounds.sentence("Promise 8", "NONE (not so many). BAD (i 0 .. 7).", () -> {
            Bounds.bounds("stray of none", DoneBounds::two, (x, n) -> x.stray(n[0], n[1]), Bounds.BAD, Bounds.to(0, 7), Bounds.to(0, 1));
            Bounds.bounds("stray of eight", () -> lying(8), (x, n) -> x.stray(n[0], n[1]), Bounds.BAD, Bounds.to(0, 7), Bounds.to(0, 1));
            WordFletchers x = lying(2);
            Bounds.due("the second of two", x.stray(1, 0), 1);
            Bounds.due("the third of two", x.stray(2, 0), Bounds.NONE);
            Bounds.due("the eighth of two", x.stray(7, 1), Bounds.NONE);
            Bounds.due("the ninth is none at all", x.stray(8, 0), Bounds.BAD);
            Bounds.due("no such what ahead of not so many", x.stray(7, 2), Bounds.BAD);
        });
    }

    private static WordFletchers spent() {
        WordFletchers x = Bounds.of("p15 0;p18 0;s9 0 0;s9 3 1;f0 2;f1 20;f2 0;");
        x.lets(0, 0, 0, 1, 1);
        x.damps(3);
        x.saw(0, 4);
        x.keep(0);
        Bounds.type(x, "p1 2;");
        return x;
    }

    private static WordFletchers late() {
        WordFletchers x = Bounds.of("p15 0;s9 0 0;");
        for (int i = 0; i < 111; i++) x.hours(9);
        return x;
    }

    private static void promises9To15() {
        Bounds.sentence("Promise 9", "BAD; STATE: he does not KNOW it, there are not so many FEATHERS", () -> {
            Bounds.bounds("lets", DoneBounds::spent, (x, n) -> x.lets(n[0], n[1], n[2], n[3], n[4]), Bounds.BAD,
                Bounds.to(0, 1), Bounds.to(0, 1), Bounds.to(0, 3), Bounds.to(0, 3), Bounds.to(0, 1));
            Bounds.refused("lets() by who doesn't KNOW it", DoneBounds::spent, x -> x.lets(1, 0, 1, 1, 1), Bounds.STATE);
            Bounds.refused("lets() PLAIN by who doesn't KNOW it", DoneBounds::spent, x -> x.lets(0, 1, 0, 0, 1), Bounds.STATE);
            Bounds.refused("lets() by two GEESE of one", DoneBounds::spent, x -> x.lets(0, 0, 0, 2, 1), Bounds.STATE);
            Bounds.refused("lets() by a CROW of none", DoneBounds::spent, x -> x.lets(0, 0, 2, 1, 1), Bounds.STATE);
            Bounds.refused("lets() to side 2", DoneBounds::spent, x -> x.lets(1, 0, 2, 3, 2), Bounds.BAD);
            Bounds.due("lets() by one GOOSE of one", spent().lets(0, 0, 0, 1, 1), 0);
        });
        Bounds.sentence("Promise 10", "BAD; STATE: none LIES there", () -> {
            Bounds.bounds("picks", DoneBounds::spent, (x, n) -> x.picks(n[0]), Bounds.BAD, Bounds.to(0, 1));
            Bounds.refused("picks() where none LIES", DoneBounds::spent, x -> x.picks(1), Bounds.STATE);
            Bounds.refused("picks() by nobody", DoneBounds::spent, x -> x.picks(2), Bounds.BAD);
            WordFletchers x = spent();
            Bounds.due("picks() where one LIES", x.picks(0), 0);
            Bounds.due("picks() where none LIES any more", x.picks(0), Bounds.STATE);
            Bounds.due("picks(0) of nothing", two().picks(0), Bounds.STATE);
        });
        Bounds.sentence("Promise 11", "BAD; STATE: it would be beyond 999", () -> {
            Bounds.due("the HOUR", late().now(0), 999);
            Bounds.refused("hours(1) at 999", DoneBounds::late, x -> x.hours(1), Bounds.STATE);
            Bounds.refused("hours(9) at 999", DoneBounds::late, x -> x.hours(9), Bounds.STATE);
            Bounds.refused("hours(10) at 999", DoneBounds::late, x -> x.hours(10), Bounds.BAD);
            Bounds.refused("hours(0) at 999", DoneBounds::late, x -> x.hours(0), Bounds.BAD);
            WordFletchers x = late();
            x.undo();
            x.hours(1);
            Bounds.due("hours(9) at 991", x.hours(9), Bounds.STATE);
            Bounds.due("hours(8) at 991", x.hours(8), 999);
        });
        Bounds.sentence("Promise 12", "DAMP: what it was. BAD; STATE: it is so.", () -> {
            Bounds.refused("damps(3) of 3", DoneBounds::spent, x -> x.damps(3), Bounds.STATE);
            Bounds.refused("damps(6)", DoneBounds::spent, x -> x.damps(6), Bounds.BAD);
            Bounds.refused("damps(-1)", DoneBounds::spent, x -> x.damps(-1), Bounds.BAD);
            WordFletchers x = spent();
            for (int damp = 0; damp < 6; damp++) {
                x.damps(damp);
                Bounds.due("damps(" + damp + ") again", x.damps(damp), Bounds.STATE);
                Bounds.due("DAMP", x.now(1), damp);
            }
            Bounds.due("what it was", x.damps(0), 5);
        });
        Bounds.sentence("Promise 13", "BAD; STATE: 20.", () -> {
            Bounds.refused("plucks() of 20", DoneBounds::spent, x -> x.plucks(1, 1), Bounds.STATE);
            Bounds.refused("plucks() 10 of 20", DoneBounds::spent, x -> x.plucks(1, 10), Bounds.BAD);
            Bounds.refused("plucks() 0", DoneBounds::spent, x -> x.plucks(0, 0), Bounds.BAD);
            Bounds.refused("plucks() of kind 4", DoneBounds::spent, x -> x.plucks(4, 1), Bounds.BAD);
            WordFletchers x = spent();
            x.lets(0, 0, 1, 1, 1);
            Bounds.due("plucks() of 19", x.plucks(1, 9), 20);
            Bounds.due("plucks() of 0", x.plucks(2, 1), 1);
        });
        Bounds.sentence("Promise 14", "how many more may be. STATE: none.", () -> {
            Bounds.refused("undo() of none", DoneBounds::two, WordFletchers::undo, Bounds.STATE);
            WordFletchers x = two();
            x.lets(0, 0, 0, 3, 1);
            x.lets(1, 0, 0, 0, 1);
            x.picks(0);
            x.hours(0);
            x.damps(0);
            x.saw(0, 3);
            x.keep(0);
            x.mark(0, 0);
            Bounds.due("what is refused or changes nothing can't be UNDONE", x.undo(), Bounds.STATE);
            x.plucks(0, 1);
            Bounds.due("the only one", x.undo(), 0);
            Bounds.due("none", x.undo(), Bounds.STATE);
        });
        Bounds.sentence("Promise 15", "0 the HOUR, 1 DAMP, 2 .. 5 how many FEATHERS of each kind, 6 how many LIE. BAD.", () -> {
            Bounds.bounds("now", DoneBounds::spent, (x, n) -> x.now(n[0]), Bounds.BAD, Bounds.to(0, 6));
            int[] nows = {0, 3, 1, 20, 0, 9, 1};
            WordFletchers x = spent();
            for (int what = 0; what < 7; what++) Bounds.due("now(" + what + ")", x.now(what), nows[what]);
        });
    }
}
