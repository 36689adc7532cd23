/** Boundary cases of KINDS, THE TRACE, IMAGES, reading anew and refusals: section 4, promises 26 to 30. */
final class KindBounds {
    private KindBounds() { }

    static void run() {
        kinds();
        images();
        refusals();
        promises26To30();
    }

    private static final int[] TRACED = {1, 11, 101, 1011, 10101, 100001};

    private static void kinds() {
        Bounds.sentence("Terms", "numbers in brackets come to THE TRACE (0 at first; of all calls ever, together) as often as mark() asks that body", () -> {
            WordFletchers x = Bounds.of("p9 0;");
            Bounds.due("at first", x.trace(), 0);
            long all = 0;
            for (int round = 0; round < 3; round++) {
                for (int kind = 0; kind < 6; kind++) {
                    x.mark(kind, 0);
                    all += TRACED[kind];
                    Bounds.due("behind mark(" + kind + ", 0)", x.trace(), all);
                    x.mark(kind, 1);
                    x.mark(kind == 0 ? -1 : 6, 0);
                    Bounds.due("behind refused ones", x.trace(), all);
                }
            }
            Bounds.due("another object's", new WordFletchers().trace(), 0);
            WordFletchers most = Bounds.of("p9 0;");
            for (int i = 0; i < 500; i++) most.mark(5, 0);
            Bounds.due("behind 500", most.trace(), 500L * 100001);
        });
        Bounds.sentence("Terms", "LIAR up less DAMP (100)", () -> {
            WordFletchers x = Bounds.of("p0 0;p0 0;p1 0;p30 0;");
            x.damps(5);
            Bounds.due("below 0", x.mark(2, 0), -5);
            Bounds.due("LAWYER 0 below 0", x.mark(4, 0), -5);
            Bounds.due("LAWYER 1 below 0", x.mark(4, 1), -4);
            x.damps(1);
            Bounds.due("-1, which is no refusal", x.mark(2, 1), -1);
            Bounds.due("0", x.mark(2, 2), 0);
            Bounds.due("LAWYER 3", x.mark(4, 3), 32);
            x.damps(2);
            Bounds.due("-2, which is no refusal", x.mark(2, 0), -2);
        });
        Bounds.sentence("Terms", "SUITOR up, and how many SAYINGS he KNOWS (10)", () -> {
            WordFletchers x = Bounds.of("p0 0;p30 0;s9 0 1;s9 0 1;s9 0 1;s9 0 1;s9 0 1;s9 0 1;");
            Bounds.due("none at 0", x.mark(1, 0), 0);
            Bounds.due("all at 30", x.mark(1, 1), 36);
            Bounds.due("POET 0", x.mark(3, 0), 0);
            Bounds.due("POET 1", x.mark(3, 1), 72);
        });
        Bounds.sentence("Terms", "GOOSE up, and FEATHERS there are, of all kinds together (100000)", () -> {
            Bounds.due("none", Bounds.of("p0 0;f0 0;f1 0;f2 0;f3 0;").mark(5, 0), 0);
            Bounds.due("9 of each", Bounds.of("p0 0;").mark(5, 0), 36);
            Bounds.due("20 of each, at 30", Bounds.of("p30 0;f0 20;f1 20;f2 20;f3 20;").mark(5, 0), 110);
        });
        Bounds.sentence("Terms", "`NO = -1000000`: What none is, where a number may be below 0.", () -> {
            Bounds.due("NO", WordFletchers.NO, -1000000);
            Bounds.due("BAD", WordFletchers.BAD, -1);
            Bounds.due("STATE", WordFletchers.STATE, -2);
            Bounds.due("FULL", WordFletchers.FULL, -3);
            Bounds.due("NONE", WordFletchers.NONE, -9);
        });
    }

    private static WordFletchers done() {
        WordFletchers x = Bounds.of("p15 0;p15 0;p18 0;s9 0 0;s3 0 2;w4 5;f0 20;f1 1;f2 19;f3 0;");
        x.hours(7);
        x.damps(2);
        x.lets(2, 1, 2, 1, 0);
        x.lets(0, 0, 0, 2, 1);
        x.plucks(2, 9);
        x.saw(0, 3);
        x.mark(3, 1);
        Bounds.type(x, "p3 0;");
        return x;
    }

    private static void change(WordFletchers x) {
        for (int i = 0; i < 11; i++) x.hours(9);
        x.lets(2, 1, 2, 2, 0);
        x.damps(5);
        x.plucks(3, 9);
    }

    private static void images() {
        Bounds.sentence("Terms", "IMAGES 0, 1 keep NOW (the HOUR, DAMP, FEATHERS, who KNOWS what, what LIES where, what may be UNDONE); nothing else.", () -> {
            for (int image = 0; image < 2; image++) {
                WordFletchers x = done(), kept = done();
                x.keep(image);
                change(x);
                Bounds.due("back(" + image + ")", x.back(image), 7);
                Bounds.due("all of NOW", Bounds.all(x), Bounds.all(kept));
                while (kept.count(4) > 0) {
                    Bounds.due("undo()", x.undo(), kept.undo());
                    Bounds.due("what is UNDONE", Bounds.state(x), Bounds.state(kept));
                }
                Bounds.due("no more", x.undo(), Bounds.STATE);
                Bounds.due("back(" + image + ") again", x.back(image), 7);
            }
            WordFletchers x = done();
            x.keep(0);
            x.forget();
            x.clear();
            x.mark(0, 0);
            long trace = x.trace();
            x.back(0);
            Bounds.due("SEEN is not kept", x.count(3), 0);
            Bounds.due("THE TEXT is not kept", x.count(5), 0);
            Bounds.due("THE TRACE is not kept", x.trace(), trace);
        });
        Bounds.sentence("Terms", "(Read anew: as told (what is not told as at first), nothing SEEN or to be UNDONE, IMAGES are gone; THE TRACE stays.)", () -> {
            WordFletchers x = done();
            x.keep(0);
            x.keep(1);
            long trace = x.trace();
            Bounds.due("uplands()", x.uplands(), 1);
            Bounds.due("THE TRACE", x.trace(), trace);
            Bounds.due("back(0)", x.back(0), Bounds.STATE);
            Bounds.due("back(1)", x.back(1), Bounds.STATE);
            Bounds.due("undo()", x.undo(), Bounds.STATE);
            Bounds.due("SEEN", x.count(3), 0);
            WordFletchers told = Bounds.of("p3 0;");
            told.mark(3, 0);
            Bounds.due("all as told", Bounds.all(x), Bounds.all(told));
            x.keep(0);
            Bounds.due("uplands() of nothing", x.uplands(), 0);
            Bounds.due("back(0) behind it", x.back(0), Bounds.STATE);
            Bounds.due("nobody", x.count(0), 0);
        });
    }

    private static WordFletchers full() {
        WordFletchers x = done();
        for (int i = 0; i < 3; i++) x.saw(1, i);
        Bounds.type(x, " ".repeat(115));
        x.keep(1);
        return x;
    }

    private static void refusals() {
        Bounds.sentence("Terms", "Refused, and nothing changes, the first of these: BAD (a number is not as told, or there is no such thing), STATE (as told), FULL.", () -> {
            Bounds.refused("type(256)", KindBounds::full, x -> x.type(256), Bounds.BAD);
            Bounds.refused("type(0)", KindBounds::full, x -> x.type(0), Bounds.FULL);
            Bounds.refused("lets() of SAYING 2", KindBounds::full, x -> x.lets(0, 2, 0, 0, 0), Bounds.BAD);
            Bounds.refused("lets() by three HAIRS, side 2", KindBounds::full, x -> x.lets(0, 0, 3, 3, 2), Bounds.BAD);
            Bounds.refused("lets() by three HAIRS of none", KindBounds::full, x -> x.lets(0, 0, 3, 3, 1), Bounds.STATE);
            Bounds.refused("lets() by four GEESE", KindBounds::full, x -> x.lets(0, 0, 0, 4, 1), Bounds.BAD);
            Bounds.refused("lets() by who doesn't KNOW it", KindBounds::full, x -> x.lets(0, 1, 0, 1, 1), Bounds.STATE);
            Bounds.refused("picks() by nobody", KindBounds::full, x -> x.picks(3), Bounds.BAD);
            Bounds.refused("picks() where none LIES", KindBounds::full, x -> x.picks(0), Bounds.STATE);
            Bounds.refused("hours(0)", KindBounds::full, x -> x.hours(0), Bounds.BAD);
            Bounds.refused("damps(6)", KindBounds::full, x -> x.damps(6), Bounds.BAD);
            Bounds.refused("damps(2) of 2", KindBounds::full, x -> x.damps(2), Bounds.STATE);
            Bounds.refused("plucks() of 20", KindBounds::full, x -> x.plucks(2, 9), Bounds.STATE);
            Bounds.refused("plucks() 10 of 20", KindBounds::full, x -> x.plucks(2, 10), Bounds.BAD);
            Bounds.refused("saw() at 31", KindBounds::full, x -> x.saw(0, 31), Bounds.BAD);
            Bounds.refused("saw() of four", KindBounds::full, x -> x.saw(0, 30), Bounds.FULL);
            Bounds.refused("mark() of KIND 6", KindBounds::full, x -> x.mark(6, 0), Bounds.NO);
            Bounds.refused("mark() of nobody", KindBounds::full, x -> x.mark(5, 3), Bounds.NO);
            Bounds.refused("keep(2)", KindBounds::full, x -> x.keep(2), Bounds.BAD);
            Bounds.refused("back(2)", KindBounds::full, x -> x.back(2), Bounds.BAD);
            Bounds.refused("back(0) of none", KindBounds::full, x -> x.back(0), Bounds.STATE);
            Bounds.refused("undo() of none", () -> Bounds.of("p9 0;"), WordFletchers::undo, Bounds.STATE);
            WordFletchers x = full();
            x.keep(2);
            change(x);
            x.back(-1);
            Bounds.due("a refused keep() leaves the IMAGE", x.back(1), 7);
        });
    }

    private static void promises26To30() {
        Bounds.sentence("Promise 26", "MARK. NO: BAD.", () -> {
            Bounds.bounds("mark", KindBounds::done, (x, n) -> x.mark(n[0], n[1]), Bounds.NO, Bounds.to(0, 5), Bounds.to(0, 2));
            Bounds.due("mark(0, 0) of nobody", new WordFletchers().mark(0, 0), Bounds.NO);
        });
        Bounds.sentence("Promise 27", "An IMAGE is kept: the HOUR. BAD.", () -> {
            Bounds.bounds("keep", KindBounds::done, (x, n) -> x.keep(n[0]), Bounds.BAD, Bounds.to(0, 1));
            WordFletchers x = done();
            x.keep(0);
            x.hours(1);
            Bounds.due("keep(0) again", x.keep(0), 8);
            x.hours(1);
            Bounds.due("back(0) to the later", x.back(0), 8);
            Bounds.due("keep(0) of a new one", new WordFletchers().keep(0), 0);
        });
        Bounds.sentence("Promise 28", "All of that becomes as an IMAGE has it: the HOUR. BAD; STATE: none was kept.", () -> {
            Bounds.bounds("back", KindBounds::done, (x, n) -> x.back(n[0]), Bounds.BAD, Bounds.to(0, 1));
            for (int image = 0; image < 2; image++) {
                WordFletchers x = done();
                Bounds.due("back(" + image + ") of a new one", new WordFletchers().back(image), Bounds.STATE);
                Bounds.due("back(" + image + ") of none", x.back(image), Bounds.STATE);
                x.keep(1 - image);
                Bounds.due("back(" + image + ") of the other", x.back(image), Bounds.STATE);
                Bounds.due("the other", x.back(1 - image), 7);
            }
            WordFletchers x = done();
            x.keep(0);
            change(x);
            x.keep(1);
            int known = x.count(4);
            Bounds.due("back(0)", x.back(0), 7);
            Bounds.due("five may be UNDONE", x.count(4), 5);
            x.undo();
            Bounds.due("back(1)", x.back(1), 106);
            Bounds.due("ten may be UNDONE", x.count(4), known);
            Bounds.due("back(0) still", x.back(0), 7);
            Bounds.due("back() itself can't be UNDONE", x.undo(), 4);
        });
        Bounds.sentence("Promise 29", "5 bytes of THE TEXT. BAD.", () -> {
            Bounds.bounds("count", KindBounds::done, (x, n) -> x.count(n[0]), Bounds.BAD, Bounds.to(0, 5));
            int[] few = {0, 0, 1, 0, 0, 0}, most = {6, 6, 6, 4, 10, 120};
            WordFletchers x = Bounds.of("p9 0;p9 0;p9 0;p9 0;p9 0;p9 0;s1 0 0;s1 0 0;s1 0 0;s1 0 0;s1 0 0;s1 0 0;w4 4 4 4 4 4;");
            for (int i = 0; i < 11; i++) x.hours(1);
            for (int i = 0; i < 5; i++) x.saw(0, 9);
            Bounds.type(x, " ".repeat(121));
            for (int what = 0; what < 6; what++) {
                Bounds.due("count(" + what + ") of a new one", new WordFletchers().count(what), few[what]);
                Bounds.due("count(" + what + ") of a full one", x.count(what), most[what]);
            }
        });
        Bounds.sentence("Promise 30", "THE TRACE.", () -> {
            WordFletchers x = Bounds.of("p9 0;");
            Bounds.due("at first", x.trace(), 0);
            x.keep(0);
            x.mark(1, 0);
            x.hours(1);
            x.undo();
            x.back(0);
            Bounds.due("neither UNDONE nor of an IMAGE", x.trace(), 11);
        });
    }
}
