/**
 * Uplands where words fall at one's feet unless they are feathered: people along a row of
 * places, sayings, feathers, winds and damp. What each call promises is in ../shared/DOC.md.
 */
public final class WordFletchers {
    public static final int BAD = -1, STATE = -2, FULL = -3, NONE = -9;
    public static final int NO = -1000000;

    private static final int MOST_PEOPLE = 6;
    private static final int MOST_SAYINGS = 6;
    private static final int MOST_WINDS = 6;
    private static final int MOST_TEXT = 120;
    private static final int MOST_STRAYS = 8;
    private static final int MOST_UNDONE = 10;
    private static final int MOST_SEEN = 4;
    private static final int MOST_FEATHERS = 20;
    private static final int MOST_IN_A_SHOT = 3;
    private static final int MOST_DAMP = 5;
    private static final int MOST_EAR = 5;
    private static final int MOST_WAIT = 12;
    private static final int LAST_PLACE = 30;
    private static final int LAST_HOUR = 999;
    private static final int LAST_WIND_ASKED = 99;
    private static final int IMAGES = 2;
    private static final int KINDS = 4;
    private static final int CROW = 2;
    private static final int HAIR = 3;
    private static final int FEATHERS_AT_FIRST = 9;
    private static final int FAULT_AT_START = -10;
    private static final int UNREACHED = 1000;

    private static final int[] LIFT = {3, 6, 4, 2};

    // A SHOT is 100 times the FEATHER, 10 times how many, and the side. PLAIN ones stand here
    // once, as of FEATHER 0: those of other FEATHERS go the same way.
    private static final int[] SHOTS_BY_KIND = {
        0, 1, 10, 11, 20, 21, 30, 31,
        110, 111, 120, 121, 130, 131,
        210, 211, 220, 221, 230, 231,
        310, 311, 320, 321, 330, 331};
    private static final int[] SHOTS_BY_HOW_MANY = {
        0, 1,
        10, 11, 110, 111, 210, 211, 310, 311,
        20, 21, 120, 121, 220, 221, 320, 321,
        30, 31, 130, 131, 230, 231, 330, 331};

    private final int[] text = new int[MOST_TEXT];
    private int textLength = 0;
    private final TextReader reader = new TextReader(text);
    private Told told = new Told();
    private Told draft = new Told();
    private final Moment moment = new Moment();
    private final Past past = new Past();
    private final Image[] images = new Image[IMAGES];
    private final Sightings sightings = new Sightings();
    private final Allotment allotment = new Allotment();
    private final int[] shotsNeeded = new int[MOST_PEOPLE];
    private final int[] placesReached = new int[MOST_PEOPLE];
    private long traced = 0;

    public WordFletchers() {
        for (int i = 0; i < IMAGES; i++) {
            images[i] = new Image();
        }
        moment.begin(told);
    }

    // ---- the uplands

    public int type(int c) {
        if (c < 0 || c > 255) {
            return BAD;
        }
        if (textLength >= MOST_TEXT) {
            return FULL;
        }
        text[textLength] = c;
        textLength++;
        return textLength;
    }

    public int clear() {
        int had = textLength;
        textLength = 0;
        return had;
    }

    public int uplands() {
        int items = reader.read(textLength, draft);
        if (items < 0) {
            return items;
        }
        Told old = told;
        told = draft;
        draft = old;
        textLength = 0;
        beginAnew();
        return items;
    }

    public int one(int p, int what) {
        if (!told.hasOne(p)) {
            return BAD;
        }
        switch (what) {
            case 0: return told.place[p];
            case 1: return told.ear[p];
            case 2: return moment.knows[p];
            default: return BAD;
        }
    }

    public int saying(int s, int what) {
        if (!told.hasSaying(s)) {
            return BAD;
        }
        switch (what) {
            case 0: return told.weight[s];
            case 1: return told.twist[s];
            case 2: return told.first[s];
            case 3: return moment.whoKnows(s);
            default: return BAD;
        }
    }

    public int wind(int n) {
        if (n < 0 || n > LAST_WIND_ASKED) {
            return NO;
        }
        return windIn(n);
    }

    public int stray(int i, int what) {
        if (i < 0 || i >= MOST_STRAYS || what < 0 || what > 1) {
            return BAD;
        }
        if (i >= moment.strays) {
            return NONE;
        }
        return what == 0 ? moment.straySaying[i] : moment.strayPlace[i];
    }

    // ---- what is done

    public int lets(int p, int s, int feather, int n, int side) {
        if (!isLetOff(p, s, feather, n, side)) {
            return BAD;
        }
        if (!moment.isKnown(p, s) || moment.feathers[feather] < n) {
            return STATE;
        }
        int landing = landingNow(p, s, shotOf(feather, n, side));
        int heard = told.hearers(p, landing);
        past.remember(moment);
        moment.feathers[feather] -= n;
        moment.tell(heard, s);
        if (heard == 0 && landing != NONE) {
            moment.addStray(s, landing);
        }
        return heard;
    }

    public int picks(int p) {
        if (!told.hasOne(p)) {
            return BAD;
        }
        int i = moment.longestStrayAt(told.place[p]);
        if (i < 0) {
            return STATE;
        }
        past.remember(moment);
        int s = moment.straySaying[i];
        moment.removeStray(i);
        moment.tell(1 << p, s);
        return s;
    }

    public int hours(int n) {
        if (n < 1 || n > 9) {
            return BAD;
        }
        if (moment.hour + n > LAST_HOUR) {
            return STATE;
        }
        past.remember(moment);
        moment.hour += n;
        return moment.hour;
    }

    public int damps(int n) {
        if (n < 0 || n > MOST_DAMP) {
            return BAD;
        }
        if (n == moment.damp) {
            return STATE;
        }
        past.remember(moment);
        int before = moment.damp;
        moment.damp = n;
        return before;
    }

    public int plucks(int feather, int n) {
        if (feather < 0 || feather >= KINDS || n < 1 || n > 9) {
            return BAD;
        }
        if (moment.feathers[feather] >= MOST_FEATHERS) {
            return STATE;
        }
        past.remember(moment);
        moment.feathers[feather] = Math.min(MOST_FEATHERS, moment.feathers[feather] + n);
        return moment.feathers[feather];
    }

    public int undo() {
        if (past.known < 1) {
            return STATE;
        }
        past.bringBack(moment);
        return past.known;
    }

    public int now(int what) {
        if (what < 0 || what > 6) {
            return BAD;
        }
        switch (what) {
            case 0: return moment.hour;
            case 1: return moment.damp;
            case 6: return moment.strays;
            default: return moment.feathers[what - 2];
        }
    }

    // ---- what could be

    public int lands(int p, int s, int feather, int n, int side) {
        if (!isLetOff(p, s, feather, n, side)) {
            return BAD;
        }
        return landingNow(p, s, shotOf(feather, n, side));
    }

    public int call(int p, int other, int s) {
        if (!areTwo(p, other) || !told.hasSaying(s)) {
            return BAD;
        }
        for (int shot : SHOTS_BY_HOW_MANY) {
            if (told.hears(other, landingNow(p, s, shot))) {
                return shot;
            }
        }
        return NONE;
    }

    public int waits(int p, int other, int s, int shot) {
        if (!areTwo(p, other) || !told.hasSaying(s) || !isShot(shot)) {
            return BAD;
        }
        for (int n = 0; n <= MOST_WAIT; n++) {
            if (told.hears(other, told.landing(p, s, shot, windIn(n), moment.damp))) {
                return n;
            }
        }
        return NONE;
    }

    public int relay(int s, int to, int what) {
        if (!told.hasSaying(s) || !told.hasOne(to) || what < 0 || what > 2) {
            return BAD;
        }
        countShotsNeeded(s, to);
        int needed = fewestNeeded(moment.whoKnows(s));
        if (needed >= UNREACHED) {
            return NONE;
        }
        if (what == 0) {
            return needed;
        }
        return needed == 0 ? NONE : firstOfRelay(s, needed - 1, what);
    }

    public int allot(int set, int s) {
        if (!told.isSetOfSayings(set) || s < -1 || s >= told.sayings) {
            return BAD;
        }
        if (s >= 0 && !isIn(set, s)) {
            return BAD;
        }
        prepareAllotment(set);
        if (!allotment.search(moment.feathers)) {
            return NONE;
        }
        return s < 0 ? allotment.total : allotment.shareOf(s);
    }

    public int odds(int p, int other, int s, int shot, int what) {
        if (!areTwo(p, other) || !told.hasSaying(s) || !isShot(shot) || what < 0 || what > 1) {
            return BAD;
        }
        int heard = 0;
        for (int i = 0; i < told.windCount(); i++) {
            if (told.hears(other, told.landing(p, s, shot, told.winds[i], moment.damp))) {
                heard++;
            }
        }
        int common = Math.max(1, commonDivisor(heard, told.windCount()));
        return (what == 0 ? heard : told.windCount()) / common;
    }

    // ---- strays

    public int saw(int s, int place) {
        if (!told.hasSaying(s) || place < 0 || place > LAST_PLACE) {
            return BAD;
        }
        if (sightings.size >= MOST_SEEN) {
            return FULL;
        }
        sightings.add(s, place, windIn(0), moment.damp);
        return sightings.size;
    }

    public int forget() {
        int was = sightings.size;
        sightings.size = 0;
        return was;
    }

    public int who() {
        return suspects();
    }

    public int ask() {
        int suspects = suspects();
        if (Integer.bitCount(suspects) < 2) {
            return NONE;
        }
        int best = NONE;
        int least = MOST_PEOPLE + 1;
        for (int s = 0; s < told.sayings; s++) {
            int alike = mostAlike(suspects, s);
            if (alike < least) {
                least = alike;
                best = s;
            }
        }
        return best;
    }

    // ---- kinds, images

    public int mark(int kind, int p) {
        if (!told.hasOne(p)) {
            return NO;
        }
        switch (kind) {
            case 0: return markOfOne(p);
            case 1: return markOfSuitor(p);
            case 2: return markOfLiar(p);
            case 3: return markOfPoet(p);
            case 4: return markOfLawyer(p);
            case 5: return markOfGoose(p);
            default: return NO;
        }
    }

    public int keep(int image) {
        if (image < 0 || image >= IMAGES) {
            return BAD;
        }
        images[image].take(moment, past);
        return moment.hour;
    }

    public int back(int image) {
        if (image < 0 || image >= IMAGES) {
            return BAD;
        }
        if (!images[image].kept) {
            return STATE;
        }
        images[image].give(moment, past);
        return moment.hour;
    }

    public int count(int what) {
        switch (what) {
            case 0: return told.people;
            case 1: return told.sayings;
            case 2: return told.windCount();
            case 3: return sightings.size;
            case 4: return past.known;
            case 5: return textLength;
            default: return BAD;
        }
    }

    public long trace() {
        return traced;
    }

    // ---- what the calls share

    private void beginAnew() {
        moment.begin(told);
        past.known = 0;
        sightings.size = 0;
        for (int i = 0; i < IMAGES; i++) {
            images[i].kept = false;
        }
    }

    private static boolean isIn(int set, int i) {
        return (set >> i & 1) != 0;
    }

    private static int commonDivisor(int a, int b) {
        for (int d = Math.max(a, b); d > 1; d--) {
            if (a % d == 0 && b % d == 0) {
                return d;
            }
        }
        return 1;
    }

    private static int shotOf(int feather, int n, int side) {
        return 100 * feather + 10 * n + side;
    }

    private static boolean isShot(int shot) {
        return shot >= 0 && shot / 100 < KINDS && shot / 10 % 10 <= MOST_IN_A_SHOT
            && shot % 10 <= 1;
    }

    private boolean isLetOff(int p, int s, int feather, int n, int side) {
        return told.hasOne(p) && told.hasSaying(s) && feather >= 0 && feather < KINDS
            && n >= 0 && n <= MOST_IN_A_SHOT && side >= 0 && side <= 1;
    }

    private boolean areTwo(int p, int other) {
        return told.hasOne(p) && told.hasOne(other) && p != other;
    }

    private int windIn(int n) {
        return told.windOf(moment.hour + n);
    }

    private int landingNow(int p, int s, int shot) {
        return told.landing(p, s, shot, windIn(0), moment.damp);
    }

    // ---- RELAY

    /** By how many SHOTS each of PEOPLE, were he the only one to KNOW it, gets a SAYING to one. */
    private void countShotsNeeded(int s, int to) {
        for (int p = 0; p < told.people; p++) {
            shotsNeeded[p] = p == to ? 0 : UNREACHED;
        }
        for (int round = 1; round < told.people; round++) {
            for (int p = 0; p < told.people; p++) {
                shotsNeeded[p] = Math.min(shotsNeeded[p], 1 + fewestNeeded(whoCanHear(p, s)));
            }
        }
    }

    private int fewestNeeded(int people) {
        int fewest = UNREACHED;
        for (int p = 0; p < told.people; p++) {
            if (isIn(people, p)) {
                fewest = Math.min(fewest, shotsNeeded[p]);
            }
        }
        return fewest;
    }

    private int whoCanHear(int p, int s) {
        int people = 0;
        for (int shot : SHOTS_BY_KIND) {
            people |= told.hearers(p, landingNow(p, s, shot));
        }
        return people;
    }

    /** The first SHOT behind which so few are left, or who lets it off. */
    private int firstOfRelay(int s, int left, int what) {
        for (int p = 0; p < told.people; p++) {
            if (!moment.isKnown(p, s)) {
                continue;
            }
            for (int shot : SHOTS_BY_KIND) {
                if (fewestNeeded(told.hearers(p, landingNow(p, s, shot))) == left) {
                    return what == 1 ? p : shot;
                }
            }
        }
        return NONE;
    }

    // ---- ALLOT

    private void prepareAllotment(int set) {
        allotment.members = 0;
        for (int s = 0; s < told.sayings; s++) {
            if (isIn(set, s)) {
                int member = allotment.addMember(s);
                for (int kind = 0; kind < KINDS; kind++) {
                    allotment.setFewest(member, kind, fewestToBeHeard(s, kind));
                }
            }
        }
    }

    private int fewestToBeHeard(int s, int kind) {
        int p = told.first[s];
        for (int n = kind == 0 ? 0 : 1; n <= MOST_IN_A_SHOT; n++) {
            if (told.hearers(p, landingNow(p, s, shotOf(kind, n, 1))) != 0) {
                return n;
            }
        }
        return NONE;
    }

    // ---- WHO and ASK

    private int suspects() {
        int people = 0;
        for (int p = 0; p < told.people; p++) {
            if (canBeAllSeen(p)) {
                people |= 1 << p;
            }
        }
        return people;
    }

    private boolean canBeAllSeen(int p) {
        for (int i = 0; i < sightings.size; i++) {
            int s = sightings.saying[i];
            int places = told.landings(p, s, sightings.wind[i], sightings.damp[i]);
            if (!isIn(places, sightings.place[i])) {
                return false;
            }
        }
        return true;
    }

    /** The greatest number of people for whom a SAYING has as many PLACES to land at. */
    private int mostAlike(int people, int s) {
        for (int p = 0; p < told.people; p++) {
            placesReached[p] = Integer.bitCount(told.landings(p, s, windIn(0), moment.damp));
        }
        int most = 0;
        for (int p = 0; p < told.people; p++) {
            most = Math.max(most, howManyReach(people, placesReached[p]));
        }
        return most;
    }

    private int howManyReach(int people, int places) {
        int many = 0;
        for (int p = 0; p < told.people; p++) {
            if (isIn(people, p) && placesReached[p] == places) {
                many++;
            }
        }
        return many;
    }

    // ---- MARK, KIND by KIND

    private int markOfOne(int p) {
        traced += 1;
        return told.place[p];
    }

    private int markOfSuitor(int p) {
        traced += 10;
        return markOfOne(p) + Integer.bitCount(moment.knows[p]);
    }

    private int markOfLiar(int p) {
        traced += 100;
        return markOfOne(p) - moment.damp;
    }

    private int markOfPoet(int p) {
        traced += 1000;
        return markOfSuitor(p) * 2;
    }

    private int markOfLawyer(int p) {
        traced += 10000;
        return markOfLiar(p) + p;
    }

    private int markOfGoose(int p) {
        traced += 100000;
        return markOfOne(p) + moment.allFeathers();
    }

    /** What a text tells; it stays until another text is read. */
    private static final class Told {
        final int[] place = new int[MOST_PEOPLE];
        final int[] ear = new int[MOST_PEOPLE];
        final int[] weight = new int[MOST_SAYINGS];
        final int[] twist = new int[MOST_SAYINGS];
        final int[] first = new int[MOST_SAYINGS];
        final int[] winds = new int[MOST_WINDS];
        final int[] feathers = new int[KINDS];
        int people;
        int sayings;
        int windsTold;

        Told() {
            tellNothing();
        }

        void tellNothing() {
            people = 0;
            sayings = 0;
            windsTold = 0;
            winds[0] = 0;
            for (int kind = 0; kind < KINDS; kind++) {
                feathers[kind] = FEATHERS_AT_FIRST;
            }
        }

        boolean hasOne(int p) {
            return p >= 0 && p < people;
        }

        boolean hasSaying(int s) {
            return s >= 0 && s < sayings;
        }

        boolean isSetOfSayings(int set) {
            return set > 0 && set < 1 << sayings;
        }

        /** Untold WINDS are one 0, which stands at the head of the row then. */
        int windCount() {
            return Math.max(1, windsTold);
        }

        int windOf(int hour) {
            return winds[Math.max(0, hour) % windCount()];
        }

        int flight(int s, int feather, int n, int damp) {
            if (n == 0) {
                return twist[s];
            }
            int felt = feather == CROW ? 0 : damp;
            return Math.max(0, n * LIFT[feather] + twist[s] - weight[s] - felt);
        }

        /** Where one's SAYING LANDS by a SHOT, or NONE beyond the row. */
        int landing(int p, int s, int shot, int wind, int damp) {
            int feather = shot / 100;
            int n = shot / 10 % 10;
            boolean plain = n == 0;
            boolean goesUp = shot % 10 == (plain ? 0 : 1);
            int flight = flight(s, feather, n, damp);
            boolean windFelt = flight > 0 && (plain || feather != HAIR);
            int at = place[p] + (goesUp ? flight : -flight) + (windFelt ? wind : 0);
            return at < 0 || at > LAST_PLACE ? NONE : at;
        }

        /** All PLACES (bits) where one's SAYING can land. */
        int landings(int p, int s, int wind, int damp) {
            int places = 0;
            for (int shot : SHOTS_BY_KIND) {
                int at = landing(p, s, shot, wind, damp);
                if (at != NONE) {
                    places |= 1 << at;
                }
            }
            return places;
        }

        boolean hears(int p, int landing) {
            return landing != NONE && Math.abs(place[p] - landing) <= ear[p];
        }

        /** All others (bits) who hear what one lets off. */
        int hearers(int p, int landing) {
            int heard = 0;
            for (int other = 0; other < people; other++) {
                if (other != p && hears(other, landing)) {
                    heard |= 1 << other;
                }
            }
            return heard;
        }
    }

    /** Reads THE TEXT token by token. */
    private static final class TextReader {
        private static final int END = 0, LETTERS = 1, NUMBER = 2, SEMICOLON = 3, WRONG = 4;

        private final int[] bytes;
        private int length;
        private int next;
        // The TOKEN at hand: its sort, its first byte's place, its letter or number.
        private int sort;
        private int start;
        private int value;

        TextReader(int[] bytes) {
            this.bytes = bytes;
        }

        /** How many ITEMS; -10 less FAULT. */
        int read(int textLength, Told into) {
            length = Math.min(textLength, bytes.length);
            next = 0;
            into.tellNothing();
            step();
            int items = 0;
            while (sort != END && items < MOST_TEXT) {
                if (!readItem(into)) {
                    return FAULT_AT_START - start;
                }
                items++;
            }
            return items;
        }

        // Where one of these answers false, the TOKEN at hand is the one that can't stand there.

        private boolean readItem(Told into) {
            if (sort != LETTERS) {
                return false;
            }
            switch (value) {
                case 'p': return readOne(into);
                case 's': return readSaying(into);
                case 'w': return readWinds(into);
                case 'f': return readFeathers(into);
                default: return false;
            }
        }

        private boolean readOne(Told into) {
            if (into.people >= MOST_PEOPLE) {
                return false;
            }
            step();
            int place = takeNumber(0, LAST_PLACE);
            int ear = place < 0 ? BAD : takeNumber(0, MOST_EAR);
            if (ear < 0 || !takeSemicolon()) {
                return false;
            }
            into.place[into.people] = place;
            into.ear[into.people] = ear;
            into.people++;
            return true;
        }

        private boolean readSaying(Told into) {
            if (into.sayings >= MOST_SAYINGS) {
                return false;
            }
            step();
            int weight = takeNumber(1, 9);
            int twist = weight < 0 ? BAD : takeNumber(0, 3);
            int first = twist < 0 ? BAD : takeNumber(0, into.people - 1);
            if (first < 0 || !takeSemicolon()) {
                return false;
            }
            into.weight[into.sayings] = weight;
            into.twist[into.sayings] = twist;
            into.first[into.sayings] = first;
            into.sayings++;
            return true;
        }

        private boolean readWinds(Told into) {
            if (into.windsTold > 0) {
                return false;
            }
            step();
            for (int i = 0; i < MOST_WINDS && (i == 0 || sort != SEMICOLON); i++) {
                int number = takeNumber(0, 8);
                if (number < 0) {
                    return false;
                }
                into.winds[i] = number - 4;
                into.windsTold = i + 1;
            }
            return takeSemicolon();
        }

        private boolean readFeathers(Told into) {
            step();
            int kind = takeNumber(0, KINDS - 1);
            int n = kind < 0 ? BAD : takeNumber(0, MOST_FEATHERS);
            if (n < 0 || !takeSemicolon()) {
                return false;
            }
            into.feathers[kind] = n;
            return true;
        }

        /** The NUMBER at hand, which is passed; BAD, and it stays, if it is none told so. */
        private int takeNumber(int least, int most) {
            if (sort != NUMBER || value < least || value > most) {
                return BAD;
            }
            int number = value;
            step();
            return number;
        }

        private boolean takeSemicolon() {
            if (sort != SEMICOLON) {
                return false;
            }
            step();
            return true;
        }

        private void step() {
            while (next < length && bytes[next] == ' ') {
                next++;
            }
            start = next;
            sort = sortAt(next);
            if (sort == LETTERS) {
                stepOverLetters();
            } else if (sort == NUMBER) {
                stepOverDigits();
            } else if (sort != END) {
                next++;
            }
        }

        private void stepOverLetters() {
            while (next < length && sortAt(next) == LETTERS) {
                next++;
            }
            value = next - start == 1 ? bytes[start] : 0;
        }

        private void stepOverDigits() {
            value = 0;
            while (next < length && sortAt(next) == NUMBER) {
                value = Math.min(100, value * 10 + bytes[next] - '0');
                next++;
            }
            boolean zeroAhead = bytes[start] == '0' && next - start > 1;
            if (value > 99 || zeroAhead) {
                sort = WRONG;
            }
        }

        /** The sort of TOKEN that a byte begins. */
        private int sortAt(int i) {
            if (i >= length) {
                return END;
            }
            int c = bytes[i];
            if (c >= 'a' && c <= 'z') {
                return LETTERS;
            }
            if (c >= '0' && c <= '9') {
                return NUMBER;
            }
            return c == ';' ? SEMICOLON : WRONG;
        }
    }

    /** What is NOW, and can be undone. */
    private static final class Moment {
        int hour;
        int damp;
        int strays;
        final int[] feathers = new int[KINDS];
        final int[] knows = new int[MOST_PEOPLE];
        final int[] straySaying = new int[MOST_STRAYS];
        final int[] strayPlace = new int[MOST_STRAYS];

        void begin(Told told) {
            hour = 0;
            damp = 0;
            strays = 0;
            for (int kind = 0; kind < KINDS; kind++) {
                feathers[kind] = told.feathers[kind];
            }
            for (int p = 0; p < MOST_PEOPLE; p++) {
                knows[p] = 0;
            }
            for (int s = 0; s < told.sayings; s++) {
                tell(1 << told.first[s], s);
            }
        }

        void become(Moment other) {
            hour = other.hour;
            damp = other.damp;
            strays = other.strays;
            System.arraycopy(other.feathers, 0, feathers, 0, KINDS);
            System.arraycopy(other.knows, 0, knows, 0, MOST_PEOPLE);
            System.arraycopy(other.straySaying, 0, straySaying, 0, MOST_STRAYS);
            System.arraycopy(other.strayPlace, 0, strayPlace, 0, MOST_STRAYS);
        }

        boolean isKnown(int p, int s) {
            return isIn(knows[p], s);
        }

        int whoKnows(int s) {
            int people = 0;
            for (int p = 0; p < MOST_PEOPLE; p++) {
                if (isKnown(p, s)) {
                    people |= 1 << p;
                }
            }
            return people;
        }

        void tell(int people, int s) {
            for (int p = 0; p < MOST_PEOPLE; p++) {
                if (isIn(people, p)) {
                    knows[p] |= 1 << s;
                }
            }
        }

        int allFeathers() {
            int all = 0;
            for (int kind = 0; kind < KINDS; kind++) {
                all += feathers[kind];
            }
            return all;
        }

        void addStray(int s, int at) {
            if (strays >= MOST_STRAYS) {
                removeStray(0);
            }
            straySaying[strays] = s;
            strayPlace[strays] = at;
            strays++;
        }

        void removeStray(int i) {
            for (int behind = i + 1; behind < strays; behind++) {
                straySaying[behind - 1] = straySaying[behind];
                strayPlace[behind - 1] = strayPlace[behind];
            }
            strays--;
        }

        /** Which of what LIES; NONE. */
        int longestStrayAt(int at) {
            for (int i = 0; i < strays; i++) {
                if (strayPlace[i] == at) {
                    return i;
                }
            }
            return NONE;
        }
    }

    /** What may be UNDONE: how all was ahead of each, the oldest in front. */
    private static final class Past {
        final Moment[] moments = new Moment[MOST_UNDONE];
        int known = 0;

        Past() {
            for (int i = 0; i < MOST_UNDONE; i++) {
                moments[i] = new Moment();
            }
        }

        void remember(Moment moment) {
            if (known >= MOST_UNDONE) {
                loseOldest();
            }
            moments[known].become(moment);
            known++;
        }

        void bringBack(Moment moment) {
            if (known > 0) {
                known--;
                moment.become(moments[known]);
            }
        }

        void become(Past other) {
            known = other.known;
            for (int i = 0; i < known; i++) {
                moments[i].become(other.moments[i]);
            }
        }

        private void loseOldest() {
            Moment spare = moments[0];
            for (int i = 1; i < MOST_UNDONE; i++) {
                moments[i - 1] = moments[i];
            }
            moments[MOST_UNDONE - 1] = spare;
            known--;
        }
    }

    /** An IMAGE of NOW. */
    private static final class Image {
        final Moment moment = new Moment();
        final Past past = new Past();
        boolean kept = false;

        void take(Moment fromMoment, Past fromPast) {
            moment.become(fromMoment);
            past.become(fromPast);
            kept = true;
        }

        void give(Moment toMoment, Past toPast) {
            toMoment.become(moment);
            toPast.become(past);
        }
    }

    /** What was SEEN, each in the WIND and DAMP of the HOUR when it was told. */
    private static final class Sightings {
        final int[] saying = new int[MOST_SEEN];
        final int[] place = new int[MOST_SEEN];
        final int[] wind = new int[MOST_SEEN];
        final int[] damp = new int[MOST_SEEN];
        int size = 0;

        void add(int s, int at, int windThen, int dampThen) {
            saying[size] = s;
            place[size] = at;
            wind[size] = windThen;
            damp[size] = dampThen;
            size++;
        }
    }

    /**
     * The search for ALLOT. A SAYING takes of a kind the fewest by which it is heard: more of
     * the same kind would only make a way dearer. So a way is a kind for each member.
     */
    private static final class Allotment {
        final int[] saying = new int[MOST_SAYINGS];
        final int[] fewest = new int[MOST_SAYINGS * KINDS];
        final int[] used = new int[KINDS];
        int members = 0;
        int way;
        int total;

        int addMember(int s) {
            saying[members] = s;
            members++;
            return members - 1;
        }

        void setFewest(int member, int kind, int n) {
            fewest[member * KINDS + kind] = n;
        }

        /** Whether there is a way; the ways come in the order in which the first one counts. */
        boolean search(int[] feathers) {
            total = NONE;
            for (int tried = 0; tried < 1 << 2 * members; tried++) {
                int cost = costOf(tried, feathers);
                if (cost >= 0 && (total < 0 || cost < total)) {
                    total = cost;
                    way = tried;
                }
            }
            return total >= 0;
        }

        /** The kinds of a way are its digits to the base 4, that of the first member in front. */
        private int kindOf(int tried, int member) {
            return tried >> 2 * (members - 1 - member) & 3;
        }

        /** How many FEATHERS a way takes; NONE if it is none. */
        private int costOf(int tried, int[] feathers) {
            for (int kind = 0; kind < KINDS; kind++) {
                used[kind] = 0;
            }
            int cost = 0;
            for (int member = 0; member < members; member++) {
                int kind = kindOf(tried, member);
                int n = fewest[member * KINDS + kind];
                if (n < 0 || used[kind] + n > feathers[kind]) {
                    return NONE;
                }
                used[kind] += n;
                cost += n;
            }
            return cost;
        }

        int shareOf(int s) {
            for (int member = 0; member < members; member++) {
                if (saying[member] == s) {
                    int kind = kindOf(way, member);
                    return 10 * kind + fewest[member * KINDS + kind];
                }
            }
            return NONE;
        }
    }
}
