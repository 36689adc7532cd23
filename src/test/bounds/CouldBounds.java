/** Boundary cases of what could be, and of strays: section 3, promises 16 to 25. */
final class CouldBounds {
    private CouldBounds() { }

    // WEIGHT 3, TWIST 0: GOOSE flies 0, 3, 6; SWAN 3, 9, 15; CROW 1, 5, 9; HAIR 0, 1, 3; PLAIN 0
    private static final String SAYING3 = "s3 0 0;";
    private static final String NO_FEATHERS = "f0 0;f1 0;f2 0;f3 0;";
    private static final String ALL_FEATHERS = "f0 20;f1 20;f2 20;f3 20;";

    static void run() {
        everyShot();
        calls();
        waiting();
        relays();
        allotments();
        strays();
        odds();
        promises16To20();
        promises21To25();
    }

    private static WordFletchers three() {
        WordFletchers x = Bounds.of("p10 0;p13 0;p22 0;s3 0 0;s9 3 1;w4 5;");
        x.hours(2);
        x.lets(0, 0, 3, 1, 1);
        x.saw(0, 13);
        x.keep(1);
        Bounds.type(x, "p1 2;");
        return x;
    }

    private interface Look {
        void at(WordFletchers x, int place, int ear);
    }

    /** One at 15 and another one at each PLACE, in many WINDS and DAMPS, by many SAYINGS. */
    private static void everywhere(Look look) {
        for (int weight = 1; weight < 10; weight += 2) {
            for (int twist = 0; twist < 4; twist += 3) {
                for (int wind = 0; wind < 9; wind++) {
                    for (int place = 0; place < 31; place++) {
                        int ear = (place + weight) % 3;
                        String text = "p15 0;p" + place + " " + ear + ";s" + weight + " " + twist + " 0;w" + wind + ";";
                        WordFletchers x = Bounds.of(text);
                        x.damps((place + wind) % 4);
                        look.at(x, place, ear);
                    }
                }
            }
        }
    }

    private static boolean heard(WordFletchers x, int shot, int place, int ear) {
        int at = x.lands(0, 0, shot / 100, shot / 10 % 10, shot % 10);
        return at >= 0 && Math.abs(at - place) <= ear;
    }

    private static int code(int kind, int n, int side) {
        return 100 * kind + 10 * n + side;
    }

    /** The SHOT that is the first in the order of CALL by which one at a PLACE hears it, by lands() of all. */
    private static int fewestHeard(WordFletchers x, int place, int ear) {
        for (int n = 0; n < 4; n++) {
            for (int kind = 0; kind < (n == 0 ? 1 : 4); kind++) {
                for (int side = 0; side < 2; side++) {
                    if (heard(x, code(kind, n, side), place, ear)) return code(kind, n, side);
                }
            }
        }
        return Bounds.NONE;
    }

    /** The same in the order of RELAY. */
    private static int leastKindHeard(WordFletchers x, int place, int ear) {
        for (int kind = 0; kind < 4; kind++) {
            for (int n = kind == 0 ? 0 : 1; n < 4; n++) {
                for (int side = 0; side < 2; side++) {
                    if (heard(x, code(kind, n, side), place, ear)) return code(kind, n, side);
                }
            }
        }
        return Bounds.NONE;
    }

    private static void everyShot() {
        Bounds.sentence("Terms", ": 100 times the kind, 10 times how many, and the side; NONE. WAIT", () ->
            everywhere((x, place, ear) -> Bounds.due("call() to " + place, x.call(0, 1, 0), fewestHeard(x, place, ear))));
        Bounds.sentence("Terms", "by which SHOT (as in CALL) the first is let off", () ->
            everywhere((x, place, ear) -> {
                int shot = leastKindHeard(x, place, ear);
                Bounds.due("relay() to " + place, x.relay(0, 1, 2), shot);
                Bounds.due("relay() to " + place + " by whom", x.relay(0, 1, 1), shot < 0 ? Bounds.NONE : 0);
                Bounds.due("relay() to " + place + ": how many", x.relay(0, 1, 0), shot < 0 ? Bounds.NONE : 1);
            }));
        Bounds.sentence("Terms", "by any SHOT", () ->
            everywhere((x, place, ear) -> {
                int can = fewestHeard(x, place, 0) < 0 ? 0 : 1;
                x.saw(0, place);
                Bounds.due("who() at " + place + ": the first one", x.who() & 1, can);
            }));
        Bounds.sentence("Terms", "WAIT for a SHOT", () ->
            everywhere((x, place, ear) -> {
                for (int shot = 0; shot < 332; shot++) {
                    if (isShot(shot)) {
                        boolean heard = heard(x, shot, place, ear);
                        Bounds.due("waits() to " + place + " by " + shot, x.waits(0, 1, 0, shot), heard ? 0 : Bounds.NONE);
                        Bounds.due("odds() to " + place + " by " + shot, x.odds(0, 1, 0, shot, 0), heard ? 1 : 0);
                    }
                }
            }));
    }

    private static void calls() {
        Bounds.sentence("Terms", "(Nothing is changed; SHOTS are tried as if there were 3 FEATHERS of each kind.)", () -> {
            for (String feathers : new String[] {NO_FEATHERS, "f0 2;f1 2;f2 2;f3 2;", ALL_FEATHERS}) {
                String text = "p10 0;p13 0;p22 0;p14 0;s3 0 0;" + feathers;
                WordFletchers x = Bounds.of(text);
                Bounds.due("call() by one SWAN", x.call(0, 1, 0), 111);
                Bounds.due("call() by three CROWS", x.call(1, 2, 0), 121);
                Bounds.due("call() of 12 up, by four GEESE", x.call(0, 2, 0), Bounds.NONE);
                Bounds.due("waits() for three GEESE's 6", x.waits(0, 1, 0, 31), Bounds.NONE);
                Bounds.due("waits() for three HAIRS' 3", x.waits(0, 1, 0, 331), 0);
                Bounds.due("relay() of two", x.relay(0, 2, 0), 2);
                Bounds.due("its first SHOT", x.relay(0, 2, 2), 21);
                Bounds.due("odds()", x.odds(0, 1, 0, 111, 0), 1);
                Bounds.due("lands() by three SWANS", x.lands(0, 0, 1, 3, 1), 25);
                x.allot(1, -1);
                Bounds.due("all stays", Bounds.all(x), Bounds.all(Bounds.of(text)));
                x.saw(0, 25);
                Bounds.due("who() by three of a kind", x.who(), 1 + 4);
                x.ask();
                Bounds.due("nothing is to be UNDONE", x.undo(), Bounds.STATE);
            }
        });
        Bounds.sentence("Terms", "(whoever KNOWS it)", () -> {
            WordFletchers x = Bounds.of("p10 0;p13 0;" + SAYING3);
            Bounds.due("by who KNOWS it", x.call(0, 1, 0), 111);
            Bounds.due("by who doesn't", x.call(1, 0, 0), 110);
            x.lets(0, 0, 1, 1, 1);
            Bounds.due("to who KNOWS it", x.call(0, 1, 0), 111);
        });
        Bounds.sentence("Terms", "the SHOT of fewest FEATHERS by which the other one hears it", () -> {
            Bounds.due("PLAIN ahead of all", Bounds.of("p10 0;p10 5;" + SAYING3).call(0, 1, 0), 0);
            Bounds.due("one SWAN ahead of two GEESE", Bounds.of("p10 0;p13 0;" + SAYING3).call(0, 1, 0), 111);
            Bounds.due("two SWANS ahead of three CROWS", Bounds.of("p10 0;p19 0;" + SAYING3).call(0, 1, 0), 121);
            Bounds.due("three SWANS, when nothing less does", Bounds.of("p10 0;p25 0;" + SAYING3).call(0, 1, 0), 131);
            Bounds.due("three HAIRS in a WIND of 1", Bounds.of("p10 0;p13 0;w5;" + SAYING3).call(0, 1, 0), 331);
        });
        Bounds.sentence("Terms", "of several that of the least kind (PLAIN: 0), then side 0", () -> {
            Bounds.due("one GOOSE ahead of one SWAN", Bounds.of("p10 0;p14 2;s1 0 0;").call(0, 1, 0), 11);
            // GOOSE 1, SWAN 4, CROW 2: of WEIGHT 5 and TWIST 3; PLAIN to 7 and 13
            Bounds.due("side 0 ahead of side 1", Bounds.of("p10 0;p10 1;s5 3 0;").call(0, 1, 0), 10);
            Bounds.due("side 1 of the lesser kind ahead of side 0", Bounds.of("p10 0;p11 0;p12 0;s5 3 0;").call(0, 1, 0), 11);
            Bounds.due("PLAIN, side 0 ahead of side 1", Bounds.of("p10 0;p11 5;s1 1 0;").call(0, 1, 0), 0);
            Bounds.due("PLAIN, side 1", Bounds.of("p10 0;p9 0;s1 1 0;").call(0, 1, 0), 1);
            Bounds.due("CROW ahead of HAIR", Bounds.of("p10 0;p15 2;s1 0 0;f0 0;").call(0, 1, 0), 111);
        });
        Bounds.sentence("Terms", "10 times how many, and the side; NONE", () -> {
            Bounds.due("12 off", Bounds.of("p0 0;p12 0;" + SAYING3).call(0, 1, 0), Bounds.NONE);
            Bounds.due("16 off", Bounds.of("p0 0;p16 0;" + SAYING3).call(0, 1, 0), Bounds.NONE);
            Bounds.due("15 off", Bounds.of("p0 0;p15 0;" + SAYING3).call(0, 1, 0), 131);
            Bounds.due("16 off by EAR 1", Bounds.of("p0 0;p16 1;" + SAYING3).call(0, 1, 0), 131);
            // 15 up would be 35, though he hears 5 off
            Bounds.due("beyond the row", Bounds.of("p20 0;p30 0;s3 0 0;").call(0, 1, 0), Bounds.NONE);
            Bounds.due("beyond the row by EAR 5", Bounds.of("p26 0;p0 5;s3 0 0;").call(0, 1, 0), Bounds.NONE);
        });
    }

    private static void waiting() {
        Bounds.sentence("Terms", "in how many HOURS (0 .. 12), if these go by, the other one hears it by that first; NONE", () -> {
            // a SWAN's 3 and the WIND: 15 in the last HOUR of six alone
            WordFletchers x = Bounds.of("p10 0;p15 0;s3 0 0;w4 4 4 4 4 6;");
            for (int hour = 0; hour < 13; hour++) {
                Bounds.due("at " + hour, x.waits(0, 1, 0, 111), 5 - hour % 6);
                Bounds.due("down at " + hour, x.waits(0, 1, 0, 110), Bounds.NONE);
                Bounds.due("HAIR at " + hour, x.waits(0, 1, 0, 331), Bounds.NONE);
                x.hours(1);
            }
            for (int i = 0; i < 109; i++) x.hours(9);
            x.hours(5);
            Bounds.due("the last HOUR", x.now(0), 999);
            Bounds.due("at 999", x.waits(0, 1, 0, 111), 2);
            Bounds.due("of several the first", Bounds.of("p10 0;p13 0;s3 0 0;w5 4 4 5 4 4;").waits(0, 1, 0, 111), 1);
            Bounds.due("0 of all", Bounds.of("p10 0;p13 5;s3 0 0;w5 4 4 5 4 4;").waits(0, 1, 0, 111), 0);
            Bounds.due("without WINDS", Bounds.of("p10 0;p14 0;s3 0 0;").waits(0, 1, 0, 111), Bounds.NONE);
        });
    }

    private static WordFletchers chain() {
        // WEIGHT 9, TWIST 0 in DAMP 5: three SWANS 4, three CROWS 3, all else 0
        WordFletchers x = Bounds.of("p0 0;p3 0;p6 0;p9 0;p12 0;p15 0;s9 0 0;");
        x.damps(5);
        return x;
    }

    private static void relays() {
        Bounds.sentence("Terms", "(each by any one who KNOWS it by then, who hears KNOWS)", () -> {
            WordFletchers x = chain();
            for (int to = 0; to < 6; to++) {
                Bounds.due("how many to " + to, x.relay(0, to, 0), to);
                Bounds.due("by whom to " + to, x.relay(0, to, 1), to == 0 ? Bounds.NONE : 0);
                Bounds.due("by which SHOT to " + to, x.relay(0, to, 2), to == 0 ? Bounds.NONE : 231);
            }
            Bounds.due("one hears", x.lets(0, 0, 2, 3, 1), 2);
            Bounds.due("one fewer", x.relay(0, 5, 0), 4);
            Bounds.due("by who heard", x.relay(0, 5, 1), 1);
            Bounds.due("none to who heard", x.relay(0, 1, 0), 0);
        });
        Bounds.sentence("Terms", "of several the lowest of PEOPLE, then the least kind, fewest FEATHERS, side 0", () -> {
            WordFletchers x = Bounds.of("p7 0;p13 0;p10 0;s3 0 1;");
            Bounds.due("the only one", x.relay(0, 2, 1), 1);
            x.lets(1, 0, 0, 3, 0);
            Bounds.due("the lowest of two", x.relay(0, 2, 1), 0);
            Bounds.due("two GEESE ahead of a SWAN", x.relay(0, 2, 2), 21);
            Bounds.due("one GOOSE ahead of two", Bounds.of("p10 0;p14 2;s1 0 0;").relay(0, 1, 2), 11);
            Bounds.due("side 0 ahead of side 1", Bounds.of("p10 0;p10 1;s5 3 0;").relay(0, 1, 2), 10);
            Bounds.due("PLAIN ahead of all", Bounds.of("p10 0;p9 5;s1 1 0;").relay(0, 1, 2), 0);
            Bounds.due("PLAIN of side 1", Bounds.of("p10 0;p9 0;s1 1 0;").relay(0, 1, 2), 1);
            Bounds.due("HAIR, when nothing less does", Bounds.of("p10 0;p13 0;w5;" + SAYING3).relay(0, 1, 2), 331);
        });
        Bounds.sentence("Terms", "NONE (also none is needed)", () -> {
            WordFletchers x = Bounds.of("p0 0;p12 0;p15 0;" + SAYING3);
            Bounds.due("12 off by two", x.relay(0, 1, 0), 2);
            Bounds.due("by 15 up first", x.relay(0, 1, 2), 131);
            x = Bounds.of("p0 0;p11 0;p15 0;" + SAYING3);
            for (int what = 0; what < 3; what++) Bounds.due("not to be reached: " + what, x.relay(0, 1, what), Bounds.NONE);
            int[] known = {0, Bounds.NONE, Bounds.NONE};
            for (int what = 0; what < 3; what++) Bounds.due("he KNOWS it: " + what, x.relay(0, 0, what), known[what]);
            WordFletchers alone = Bounds.of("p5 0;" + SAYING3);
            for (int what = 0; what < 3; what++) Bounds.due("one alone: " + what, alone.relay(0, 0, what), known[what]);
        });
    }

    private static void allotments() {
        Bounds.sentence("Terms", "a set of SAYINGS (bits, not 0)", () -> {
            WordFletchers six = Bounds.of("p9 0;p9 0;s1 0 0;s1 0 0;s1 0 0;s1 0 0;s1 0 0;s1 0 0;");
            for (int set = -2; set < 70; set++) {
                Bounds.due("allot(" + set + ", -1)", six.allot(set, -1), set > 0 && set < 64 ? 0 : Bounds.BAD);
            }
            for (int set : Bounds.FAR) Bounds.due("allot(" + set + ", -1)", six.allot(set, -1), Bounds.BAD);
            WordFletchers none = Bounds.of("p9 0;");
            for (int set = -1; set < 3; set++) Bounds.due("of no SAYINGS, " + set, none.allot(set, -1), Bounds.BAD);
        });
        Bounds.sentence("Terms", "by side 1 (PLAIN, too, which goes down then), so that another one hears it", () -> {
            Bounds.due("PLAIN down", Bounds.of("p10 0;p8 0;s3 2 0;").allot(1, 0), 0);
            Bounds.due("not PLAIN up: a GOOSE", Bounds.of("p10 0;p12 0;s3 2 0;").allot(1, 0), 1);
            Bounds.due("nothing else down", Bounds.of("p10 0;p7 0;" + SAYING3).allot(1, 0), Bounds.NONE);
            Bounds.due("not by himself", Bounds.of("p10 5;" + SAYING3).allot(1, 0), Bounds.NONE);
            WordFletchers x = Bounds.of("p11 0;p13 0;p16 0;s9 3 1;f0 3;f1 0;f2 0;f3 0;");
            Bounds.due("by its FIRST: three GEESE to 16", x.allot(1, 0), 3);
        });
        Bounds.sentence("Terms", "by FEATHERS there are (for all of them together)", () -> {
            String text = "p10 0;p13 0;s3 0 0;s3 0 0;f0 0;f2 0;f3 0;f1 ";
            WordFletchers x = Bounds.of(text + "2;");
            Bounds.due("two of two SWANS", x.allot(3, -1), 2);
            x.lets(0, 0, 1, 3, 1);
            x.lets(0, 0, 1, 1, 0);
            Bounds.due("two of one SWAN", x.allot(3, -1), Bounds.NONE);
            Bounds.due("the second of two of one SWAN", x.allot(3, 1), Bounds.NONE);
            Bounds.due("one of one SWAN", x.allot(2, -1), 1);
            x.lets(0, 0, 1, 1, 0);
            Bounds.due("one of none", x.allot(2, -1), Bounds.NONE);
            x.plucks(1, 1);
            Bounds.due("one of one plucked", x.allot(1, -1), 1);
            String six = "p10 0;p13 0;s3 0 0;s3 0 0;s3 0 0;s3 0 0;s3 0 0;s3 0 0;f0 0;f1 0;w5;f3 ";
            Bounds.due("18 of 18 HAIRS", Bounds.of(six + "18;").allot(63, -1), 18);
            Bounds.due("18 of 17 HAIRS", Bounds.of(six + "17;").allot(63, -1), Bounds.NONE);
            Bounds.due("15 of 17 HAIRS", Bounds.of(six + "17;").allot(31, -1), 15);
            Bounds.due("three GEESE of two", Bounds.of("p10 0;p16 0;s3 0 0;f0 2;").allot(1, -1), Bounds.NONE);
            Bounds.due("three GEESE of three", Bounds.of("p10 0;p16 0;s3 0 0;f0 3;").allot(1, -1), 3);
        });
        Bounds.sentence("Terms", "of several the first (SAYING by SAYING: the least kind, then fewest)", () -> {
            WordFletchers x = Bounds.of("p10 0;p13 0;s3 0 0;s3 0 0;s3 0 0;f0 2;f1 2;");
            Bounds.due("how many", x.allot(7, -1), 4);
            Bounds.due("the first by GEESE", x.allot(7, 0), 2);
            Bounds.due("the second by a SWAN", x.allot(7, 1), 11);
            Bounds.due("the third by a SWAN", x.allot(7, 2), 11);
            Bounds.due("fewest FEATHERS ahead of the first", x.allot(5, 0), 11);
            // the second is heard by three GEESE alone
            x = Bounds.of("p10 0;p13 0;s3 0 0;s9 3 0;f0 3;f1 1;");
            Bounds.due("GEESE left to the second", x.allot(3, 0), 11);
            Bounds.due("all of them", x.allot(3, 1), 3);
            Bounds.due("how many", x.allot(3, -1), 4);
            x = Bounds.of("p10 0;p13 0;s3 0 0;s9 3 0;f0 4;f1 0;");
            Bounds.due("GEESE left, but one", x.allot(3, 0), 33);
            x = Bounds.of("p10 0;p13 0;s3 0 0;s9 3 0;f0 5;f1 0;");
            Bounds.due("GEESE for both", x.allot(3, 0), 2);
            x = Bounds.of("p10 0;p13 0;s3 0 0;s9 3 0;f0 4;f1 0;f3 2;");
            Bounds.due("nothing for the first", x.allot(3, -1), Bounds.NONE);
            Bounds.due("one GOOSE, not two", Bounds.of("p10 0;p14 2;s1 0 0;").allot(1, 0), 1);
        });
        Bounds.sentence("Terms", "10 times the kind, and how many (PLAIN: 0); NONE", () -> {
            Bounds.due("PLAIN", Bounds.of("p10 0;p10 0;" + SAYING3).allot(1, 0), 0);
            Bounds.due("three GEESE", Bounds.of("p10 0;p16 0;" + SAYING3).allot(1, 0), 3);
            Bounds.due("three SWANS", Bounds.of("p10 0;p25 0;" + SAYING3).allot(1, 0), 13);
            Bounds.due("two CROWS", Bounds.of("p10 0;p15 0;" + SAYING3).allot(1, 0), 22);
            Bounds.due("three HAIRS", Bounds.of("p10 0;p13 0;w5;" + SAYING3).allot(1, 0), 33);
            Bounds.due("NONE", Bounds.of("p10 0;p26 0;" + SAYING3).allot(1, 0), Bounds.NONE);
        });
    }

    private static void strays() {
        Bounds.sentence("Terms", "SEEN (4 at most)", () -> {
            WordFletchers x = Bounds.of("p10 0;" + SAYING3);
            for (int i = 1; i <= 4; i++) Bounds.due("saw() " + i, x.saw(0, 10), i);
            Bounds.due("saw() 5", x.saw(0, 10), Bounds.FULL);
            Bounds.due("four", x.count(3), 4);
            Bounds.due("forget()", x.forget(), 4);
            Bounds.due("saw() again", x.saw(0, 11), 1);
            Bounds.due("only that is SEEN", x.who(), 1);
            WordFletchers both = Bounds.of("p10 0;p20 0;s9 0 0;s9 1 0;");
            both.saw(1, 11);
            Bounds.due("by the second SAYING alone", both.who(), 1);
            both.saw(0, 11);
            Bounds.due("not by the first, too", both.who(), 0);
        });
        Bounds.sentence("Terms", "in the HOUR and DAMP that are NOW", () -> {
            // WEIGHT 9: CROWS 3, SWANS 3 and 9 in no DAMP, SWANS 4 in DAMP 5
            WordFletchers x = Bounds.of("p10 0;p18 0;s9 0 0;w8 4;");
            x.saw(0, 17);
            Bounds.due("3 up and a WIND of 4", x.who(), 1);
            x.hours(1);
            Bounds.due("an HOUR later the same", x.who(), 1);
            x.forget();
            x.saw(0, 17);
            Bounds.due("7 up without a WIND; 1 down", x.who(), 0);
            x.forget();
            x.damps(5);
            Bounds.due("forgotten", x.who(), 3);
            x.saw(0, 14);
            Bounds.due("4 up or down in DAMP 5", x.who(), 3);
            x.damps(0);
            Bounds.due("in no DAMP the same", x.who(), 3);
        });
        Bounds.sentence("Terms", "PEOPLE (bits) by whom all that was SEEN can be", () -> {
            Bounds.due("nothing, of nobody", new WordFletchers().who(), 0);
            WordFletchers x = Bounds.of("p0 0;p3 0;p15 0;p27 0;p30 0;p12 0;" + SAYING3);
            Bounds.due("nothing, of all", x.who(), 63);
            x.saw(0, 0);
            Bounds.due("0 or 3 or 15 down to 0", x.who(), 7);
            x.saw(0, 30);
            Bounds.due("15 up to 30, too", x.who(), 4);
            x.saw(0, 29);
            Bounds.due("not 14 up", x.who(), 0);
            x.forget();
            x.saw(0, 30);
            Bounds.due("15, 3 or 0 up to 30", x.who(), 28);
            Bounds.due("one who doesn't KNOW it, too", x.one(3, 2), 0);
        });
        Bounds.sentence("Terms", "of like ones the lowest; NONE (fewer than 2, no SAYINGS)", () -> {
            Bounds.due("nobody", new WordFletchers().ask(), Bounds.NONE);
            Bounds.due("one", Bounds.of("p15 0;s1 0 0;").ask(), Bounds.NONE);
            Bounds.due("two, no SAYINGS", Bounds.of("p15 0;p13 0;").ask(), Bounds.NONE);
            Bounds.due("two, one SAYING", Bounds.of("p15 0;p15 0;s1 0 0;").ask(), 0);
            Bounds.due("like ones", Bounds.of("p15 0;p13 0;s1 0 0;s1 0 0;").ask(), 0);
            Bounds.due("six alike", Bounds.of("p9 0;p9 0;p9 0;p9 0;p9 0;p9 0;s1 0 0;s1 0 0;").ask(), 0);
            Bounds.due("like ones behind another", Bounds.of("p15 0;p13 0;s9 0 0;s1 0 0;s1 0 0;").ask(), 1);
            Bounds.due("the last of six", Bounds.of("p15 0;p13 0;s9 0 0;s9 0 0;s9 0 0;s9 0 0;s9 0 0;s1 0 0;").ask(), 5);
            WordFletchers x = Bounds.of("p15 0;p13 0;s9 0 0;s1 0 0;");
            x.saw(0, 15);
            Bounds.due("one is left", x.who(), 1);
            Bounds.due("fewer than 2", x.ask(), Bounds.NONE);
            x.saw(0, 14);
            Bounds.due("none is left", x.ask(), Bounds.NONE);
            x.forget();
            Bounds.due("two again", x.ask(), 1);
            // 17 by SWANS is the most: 15 and 13 tell it apart without a WIND alone
            WordFletchers windy = Bounds.of("p15 0;p13 0;s9 0 0;s1 0 0;w2 4;");
            Bounds.due("in a WIND of -2", windy.ask(), 0);
            windy.hours(1);
            Bounds.due("in the next HOUR", windy.ask(), 1);
            windy.hours(1);
            Bounds.due("in the HOUR behind it", windy.ask(), 0);
        });
    }

    private static void odds() {
        Bounds.sentence("Terms", "if the WIND is each of WINDS as likely: a fraction", () -> {
            for (int heard = 0; heard <= 6; heard++) {
                // a SWAN's 3 is heard in no WIND alone
                String winds = "w" + "4 ".repeat(heard) + "5 ".repeat(6 - heard) + ";";
                WordFletchers x = Bounds.of("p10 0;p13 0;s3 0 0;" + winds);
                int[] upper = {0, 1, 1, 1, 2, 5, 1}, lower = {1, 6, 3, 2, 3, 6, 1};
                Bounds.due("upper of " + heard + " of 6", x.odds(0, 1, 0, 111, 0), upper[heard]);
                Bounds.due("lower of " + heard + " of 6", x.odds(0, 1, 0, 111, 1), lower[heard]);
                x.hours(5);
                Bounds.due("whatever the HOUR", x.odds(0, 1, 0, 111, 1), lower[heard]);
            }
            WordFletchers untold = Bounds.of("p10 0;p13 0;s3 0 0;");
            Bounds.due("upper of one", untold.odds(0, 1, 0, 111, 0), 1);
            Bounds.due("lower of one", untold.odds(0, 1, 0, 111, 1), 1);
            Bounds.due("upper of none of one", untold.odds(0, 1, 0, 110, 0), 0);
            Bounds.due("lower of none of one", untold.odds(0, 1, 0, 110, 1), 1);
        });
    }

    private static boolean isShot(int shot) {
        for (int feather = 0; feather < 4; feather++) {
            for (int n = 0; n < 4; n++) {
                if (shot == 100 * feather + 10 * n || shot == 100 * feather + 10 * n + 1) return true;
            }
        }
        return false;
    }

    private static void promises16To20() {
        Bounds.sentence("Promise 16", "Where a SAYING LANDS, were one to let it off so NOW; NONE. BAD.", () -> {
            Bounds.bounds("lands", CouldBounds::three, (x, n) -> x.lands(n[0], n[1], n[2], n[3], n[4]), Bounds.BAD,
                Bounds.to(0, 2), Bounds.to(0, 1), Bounds.to(0, 3), Bounds.to(0, 3), Bounds.to(0, 1));
            Bounds.due("lands() nowhere", three().lands(2, 0, 1, 2, 1), Bounds.NONE);
            Bounds.due("lands() at 7, 15 down", three().lands(2, 0, 1, 3, 0), 7);
            Bounds.refused("lands() by nobody", CouldBounds::three, x -> x.lands(3, 0, 0, 0, 0), Bounds.BAD);
        });
        Bounds.sentence("Promise 17", "CALL; NONE. BAD (alike ones, too).", () -> {
            Bounds.bounds("call of 0", CouldBounds::three, (x, n) -> x.call(0, n[0], n[1]), Bounds.BAD, Bounds.to(1, 2), Bounds.to(0, 1));
            Bounds.bounds("call to 2", CouldBounds::three, (x, n) -> x.call(n[0], 2, n[1]), Bounds.BAD, Bounds.to(0, 1), Bounds.to(0, 1));
            for (int p = 0; p < 3; p++) Bounds.due("alike ones", three().call(p, p, 0), Bounds.BAD);
            Bounds.due("of the same PLACE they are two", Bounds.of("p9 0;p9 0;s1 0 0;").call(0, 1, 0), 0);
            Bounds.due("NONE", three().call(0, 2, 0), Bounds.NONE);
        });
        Bounds.sentence("Promise 18", "100 times the FEATHER, 10 times how many, and the side); NONE. BAD (alike ones, no such SHOT, too).", () -> {
            WordFletchers x = three();
            for (int shot = -12; shot < 420; shot++) {
                Bounds.due("waits() for " + shot + " is BAD", x.waits(0, 1, 0, shot) == Bounds.BAD, !isShot(shot));
            }
            for (int shot : Bounds.FAR) Bounds.due("waits() for " + shot, x.waits(0, 1, 0, shot), Bounds.BAD);
            Bounds.bounds("waits of 0", CouldBounds::three, (y, n) -> y.waits(0, n[0], n[1], 331), Bounds.BAD, Bounds.to(1, 2), Bounds.to(0, 1));
            Bounds.bounds("waits to 2", CouldBounds::three, (y, n) -> y.waits(n[0], 2, n[1], 0), Bounds.BAD, Bounds.to(0, 1), Bounds.to(0, 1));
            for (int p = 0; p < 3; p++) Bounds.due("alike ones", x.waits(p, p, 0, 0), Bounds.BAD);
            Bounds.due("NONE", x.waits(0, 2, 0, 111), Bounds.NONE);
        });
        Bounds.sentence("Promise 19", "how many (what = 0; 0: he KNOWS it), by whom (1), by which SHOT (2); NONE (what 1, 2: also if none is needed). BAD.", () -> {
            Bounds.bounds("relay", CouldBounds::three, (x, n) -> x.relay(n[0], n[1], n[2]), Bounds.BAD,
                Bounds.to(0, 1), Bounds.to(0, 2), Bounds.to(0, 2));
            WordFletchers x = three();
            int[] known = {0, Bounds.NONE, Bounds.NONE}, told = {2, 0, 21};
            for (int what = 0; what < 3; what++) {
                Bounds.due("he KNOWS it: " + what, x.relay(0, 0, what), known[what]);
                Bounds.due("to 22: " + what, x.relay(0, 2, what), told[what]);
                Bounds.due("12 off alone: " + what, Bounds.of("p0 0;p12 0;" + SAYING3).relay(0, 1, what), Bounds.NONE);
            }
        });
        Bounds.sentence("Promise 20", "how many (s = -1), of a SAYING; NONE. BAD (it is not of the set, too).", () -> {
            String text = "p9 0;p9 0;s1 0 0;s1 0 0;s1 0 0;s1 0 0;s1 0 0;s1 0 0;";
            Bounds.bounds("allot", () -> Bounds.of(text), (x, n) -> x.allot(63, n[0]), Bounds.BAD, Bounds.to(-1, 5));
            WordFletchers x = Bounds.of(text);
            for (int set = 1; set < 64; set += 3) {
                for (int s = 0; s < 6; s++) {
                    Bounds.due("allot(" + set + ", " + s + ")", x.allot(set, s), (set >> s & 1) == 1 ? 0 : Bounds.BAD);
                }
            }
            Bounds.due("it is not of the set, ahead of NONE", Bounds.of("p9 0;s1 0 0;s1 0 0;").allot(1, 1), Bounds.BAD);
            Bounds.due("NONE", Bounds.of("p9 0;s1 0 0;s1 0 0;").allot(1, 0), Bounds.NONE);
            Bounds.due("NONE: how many", Bounds.of("p9 0;s1 0 0;s1 0 0;").allot(1, -1), Bounds.NONE);
        });
    }

    private static WordFletchers sawFour() {
        WordFletchers x = three();
        for (int i = 0; i < 3; i++) x.saw(1, 3 * i);
        return x;
    }

    private static void promises21To25() {
        Bounds.sentence("Promise 21", "lower number (1), in least terms. BAD (alike ones, no such SHOT, too).", () -> {
            WordFletchers x = three();
            for (int shot = -12; shot < 420; shot++) {
                Bounds.due("odds() of " + shot + " is BAD", x.odds(0, 1, 0, shot, 1) == Bounds.BAD, !isShot(shot));
            }
            for (int shot : Bounds.FAR) Bounds.due("odds() of " + shot, x.odds(0, 1, 0, shot, 1), Bounds.BAD);
            Bounds.bounds("odds of 0", CouldBounds::three, (y, n) -> y.odds(0, n[0], n[1], 331, n[2]), Bounds.BAD,
                Bounds.to(1, 2), Bounds.to(0, 1), Bounds.to(0, 1));
            Bounds.bounds("odds to 2", CouldBounds::three, (y, n) -> y.odds(n[0], 2, n[1], 0, n[2]), Bounds.BAD,
                Bounds.to(0, 1), Bounds.to(0, 1), Bounds.to(0, 1));
            for (int p = 0; p < 3; p++) Bounds.due("alike ones", x.odds(p, p, 0, 0, 0), Bounds.BAD);
            Bounds.due("one of two, upper", x.odds(0, 1, 0, 111, 0), 1);
            Bounds.due("one of two, lower", x.odds(0, 1, 0, 111, 1), 2);
        });
        Bounds.sentence("Promise 22", "SEEN: how much there is. BAD; FULL.", () -> {
            Bounds.bounds("saw", CouldBounds::three, (x, n) -> x.saw(n[0], n[1]), Bounds.BAD, Bounds.to(0, 1), Bounds.to(0, 30));
            Bounds.bounds("saw of four", CouldBounds::sawFour, (x, n) -> x.saw(n[0], n[1]), Bounds.BAD, Bounds.to(0, 1), Bounds.to(0, 30));
            Bounds.refused("saw() of four", CouldBounds::sawFour, x -> x.saw(0, 30), Bounds.FULL);
            Bounds.refused("saw() of four at 31", CouldBounds::sawFour, x -> x.saw(0, 31), Bounds.BAD);
            Bounds.refused("saw() of four, SAYING 2", CouldBounds::sawFour, x -> x.saw(2, 0), Bounds.BAD);
            Bounds.refused("saw() at -1", CouldBounds::three, x -> x.saw(0, -1), Bounds.BAD);
        });
        Bounds.sentence("Promise 23", "Nothing was SEEN: how much was.", () -> {
            Bounds.due("forget() of none", new WordFletchers().forget(), 0);
            WordFletchers x = sawFour();
            Bounds.due("forget() of four", x.forget(), 4);
            Bounds.due("none", x.count(3), 0);
            Bounds.due("forget() again", x.forget(), 0);
            Bounds.due("all can be", x.who(), 7);
            Bounds.due("forget() can't be UNDONE", x.count(4), 2);
        });
        Bounds.sentence("Promise 24", "WHO, as bits.", () -> {
            Bounds.due("of nobody", new WordFletchers().who(), 0);
            Bounds.due("of one", Bounds.of("p9 0;").who(), 1);
            Bounds.due("of six", Bounds.of("p9 0;p9 0;p9 0;p9 0;p9 0;p9 0;").who(), 63);
            WordFletchers last = Bounds.of("p9 0;p9 0;p9 0;p9 0;p9 0;p30 0;s9 0 0;");
            last.saw(0, 30);
            Bounds.due("the sixth alone", last.who(), 32);
        });
        Bounds.sentence("Promise 25", "ASK; NONE.", () -> {
            Bounds.due("of nobody", new WordFletchers().ask(), Bounds.NONE);
            Bounds.due("of two", Bounds.of("p9 0;p9 0;s1 0 0;").ask(), 0);
            WordFletchers x = Bounds.of("p9 0;p9 0;s1 0 0;");
            x.saw(0, 30);
            Bounds.due("of nobody left", x.ask(), Bounds.NONE);
        });
    }
}
