/**
 * A strand of sixty four places, people who wait on it, and a ferry that fetches those who are seen alone.
 * The words in capitals in the comments are those of the document.
 */
public final class FerryForAlone {
    public static final int NONE = -1, BAD = -2, STATE = -3, FULL = -4;
    public static final long NO = -4611686018427387904L;

    private static final int NO_SUCH_ONE = -5, NOT_AS_TOLD = -7, NOT_ASKED = -1000, FAULTY = -100;
    private static final int NOTHING_THERE = -11, OUTSIDE = -12, UNLIKE = -13, SIZE_BELOW_0 = -14;

    private static final int PLACES = 64, LAST_PLACE = 63, PEOPLE = 6, MOST_MORE = 9;
    private static final int LAST_HOUR = 9999, MOST_FETCHED = 9999, LONGEST_OUT = 99, LONGEST_WAIT = 99;
    private static final int HOURS_THOUGHT = 60, HOURS_TOLD = 24, HOURS_OF_GULLS = 12;
    private static final int LAST_SEED = 99999, MOST_SEEDS = 40;
    private static final long LOT_FACTOR = 48271L, LOT_MODULUS = 2147483647L;
    private static final long FRACTION_STEPS = 100;

    private static final int TAPE_SIZE = 160, LAST_BYTE = 255, BYTES_FED = 5;
    private static final int TEXTS = 6, PARTS = 3, GAPS_PART = 0, LIKES_PART = 1, WALKS_PART = 2;
    private static final int MOST_SAID = 99, LONGEST_NUMBER = 4, MOST_OPEN = 5;

    private static final int TRAVELLER = 0, PRIEST = 1, POPULAR = 2, CHILD = 3, DOG = 4, LAMP = 5, KINDS = 6;
    private static final int WAITED_KIND = 6;

    private static final int SHEETS = 4, SHEET_SIZE = 40, MISSING = -1, BYTES = 0, SHORTS = 1, INTS = 2;

    // What a TEXT is made of, once it has been read: a number from 0 on stands for itself.
    private static final int SAY_PLACE = -1, SAY_WAITED = -2, SAY_HOUR = -3, SAY_SEEN = -4, SAY_FETCHED = -5,
            SAY_MORE = -6, LAST_NAME = -6, NEGATE = -7, NOT = -8, LAST_UNARY = -8,
            OR = -9, AND = -10, LESS = -11, EQUAL = -12, PLUS = -13, MINUS = -14, TIMES = -15;
    // The TOKENS that are nothing but signs of where things begin and end.
    private static final int NUMBER = 1, OPEN = 2, CLOSE = 3, SEMICOLON = 4, END = 5, WRONG = 6,
            GAPS = 10, LIKES = 11, WALKS = 12;

    private final int[] tape = new int[TAPE_SIZE];
    private final Texts texts = new Texts();
    private final Reader reader = new Reader(tape, texts);
    private final Strand now = new Strand(texts);
    private final Strand thought = new Strand(texts);
    private final Strand kept = new Strand(texts);
    private final Sheets sheets = new Sheets();
    private int taped = 0;
    private boolean imageIsKept = false;

    public FerryForAlone() {
        texts.addFirstLaw();
    }

    // ---- the ferry, the law, people

    public int count(int what) {
        switch (what) {
            case 0: return now.people;
            case 1: return now.hour;
            case 2: return now.fetched;
            case 3: return texts.known;
            case 4: return now.law;
            case 5: return taped;
            default: return BAD;
        }
    }

    public int bay(int what, int v) {
        int was;
        if (what == 0 && within(v, 0, LAST_HOUR)) {
            was = now.hour;
            now.hour = v;
        } else if (what == 1 && within(v, 0, LONGEST_OUT)) {
            was = now.out;
            now.out = v;
        } else {
            was = BAD;
        }
        return was;
    }

    public int ferry(int what) {
        switch (what) {
            case 0: return now.out;
            case 1: return now.boat;
            case 2: return now.choice();
            case 3: return now.aloneBits();
            case 4: return now.seenBits();
            case 5: return now.overBits();
            default: return NOT_AS_TOLD;
        }
    }

    public int feed(int n, int a, int b, int c, int d, int e) {
        if (!within(n, 1, BYTES_FED) || !isByte(a) || !isByte(b) || !isByte(c) || !isByte(d) || !isByte(e)) {
            return BAD;
        }
        if (n > TAPE_SIZE - taped) {
            return FULL;
        }
        tapeOne(a);
        if (n > 1) {
            tapeOne(b);
        }
        if (n > 2) {
            tapeOne(c);
        }
        if (n > 3) {
            tapeOne(d);
        }
        if (n > 4) {
            tapeOne(e);
        }
        return taped;
    }

    public int text() {
        if (texts.known >= TEXTS) {
            return FULL;
        }
        int fault = reader.faultOf(taped);
        taped = 0;
        if (fault != NONE) {
            return FAULTY - fault;
        }
        texts.known++;
        return texts.known - 1;
    }

    public int force(int t) {
        if (!within(t, 0, texts.known - 1)) {
            return BAD;
        }
        int was = now.law;
        now.law = t;
        return was;
    }

    public int asks(int part, int p) {
        if (!within(part, 0, PARTS - 1) || !now.has(p)) {
            return NOT_ASKED;
        }
        return texts.says(part, now, p);
    }

    public int traveller(int kindMore, int place) {
        return now.welcome(kindMore, place);
    }

    public int put(int p, int what, int v) {
        if (!now.has(p)) {
            return NO_SUCH_ONE;
        }
        int was = NOT_AS_TOLD;
        if (what == 0 && now.boat != p && within(v, NONE, LAST_PLACE)) {
            was = now.place[p];
            now.place[p] = v;
        } else if (what == 1 && within(v, 0, 1)) {
            was = bit(now.hidden[p]);
            now.hidden[p] = v == 1;
        } else if (what == 2 && within(v, 0, LONGEST_WAIT)) {
            was = now.waited[p];
            now.waited[p] = v;
        }
        return was;
    }

    public int told(int p, int what) {
        if (!now.has(p)) {
            return NO_SUCH_ONE;
        }
        switch (what) {
            case 0: return now.place[p];
            case 1: return bit(now.hidden[p]);
            case 2: return now.waited[p];
            case 3: return now.kind[p];
            case 4: return now.more[p];
            case 5: return now.gapAbout(p);
            case 6: return now.likedHow(p) + 1000;
            case 7: return now.walksFar(p) + 1000;
            case 8: return bit(now.isAlone(p));
            case 9: return now.farFrom(p);
            default: return NOT_AS_TOLD;
        }
    }

    // ---- hours

    public int hour() {
        if (now.hour >= LAST_HOUR) {
            return STATE;
        }
        return now.passHour();
    }

    public int walk(int p, int far) {
        if (!now.has(p)) {
            return NO_SUCH_ONE;
        }
        if (!within(far, -LAST_PLACE, LAST_PLACE)) {
            return NOT_AS_TOLD;
        }
        if (now.place[p] == NONE) {
            return STATE;
        }
        now.goOn(p, far);
        return now.place[p];
    }

    public int run(int n, int what) {
        boolean ofAll = within(what, 0, 2);
        boolean ofPlace = now.has(what - 10L);
        boolean ofWait = now.has(what - 20L);
        if (!within(n, 0, HOURS_THOUGHT) || !(ofAll || ofPlace || ofWait)) {
            return BAD;
        }
        thought.becomes(now);
        int fetched = 0;
        int digits = 0;
        for (int h = 0; h < n; h++) {
            int who = thought.passHour();
            if (who != NONE) {
                fetched++;
                digits = digits * 10 + who + 1;
            }
        }
        if (ofPlace) {
            return thought.place[what - 10];
        }
        if (ofWait) {
            return thought.waited[what - 20];
        }
        return what == 0 ? fetched : what == 1 ? digits : thought.overBits();
    }

    public int when(int p, int what) {
        if (!within(what, 0, 2)) {
            return NOT_AS_TOLD;
        }
        if (what != 2 && !now.has(p)) {
            return NO_SUCH_ONE;
        }
        thought.becomes(now);
        for (int h = 0; h <= HOURS_THOUGHT; h++) {
            boolean so = what == 0 ? thought.isOver(p)
                    : what == 1 ? thought.isAlone(p)
                    : thought.out == 0 && thought.aloneBits() == 0;
            if (so) {
                return h;
            }
            thought.passHour();
        }
        return NONE;
    }

    // ---- what is best

    public int hide(int n, int what) {
        if (!within(n, 0, HOURS_THOUGHT) || !within(what, 0, 1)) {
            return BAD;
        }
        thought.becomes(now);
        int most = fetchedInThought(n);
        int who = NONE;
        for (int p = 0; p < now.people; p++) {
            if (now.isSeen(p)) {
                thought.becomes(now);
                thought.hidden[p] = true;
                int fetched = fetchedInThought(n);
                if (fetched > most) {
                    most = fetched;
                    who = p;
                }
            }
        }
        return what == 0 ? who : most;
    }

    public int stand(int p, int what) {
        if (!now.has(p)) {
            return NO_SUCH_ONE;
        }
        if (!within(what, 0, 1)) {
            return NOT_AS_TOLD;
        }
        if (now.boat == p) {
            return STATE;
        }
        int best = NONE;
        int fewest = HOURS_THOUGHT + 1;
        for (int c = 0; c < PLACES; c++) {
            thought.becomes(now);
            thought.place[p] = c;
            thought.hidden[p] = false;
            int hours = hoursTillOver(p, fewest - 1);
            if (hours != NONE) {
                fewest = hours;
                best = c;
            }
        }
        if (what == 0 || best == NONE) {
            return best;
        }
        return fewest;
    }

    public int apart(int p, int what) {
        if (!now.has(p)) {
            return NO_SUCH_ONE;
        }
        if (!within(what, 0, 1)) {
            return NOT_AS_TOLD;
        }
        if (!now.isSeen(p)) {
            return NONE;
        }
        int from = now.place[p];
        thought.becomes(now);
        for (int off = 0; off < PLACES; off++) {
            if (wouldBeAlone(p, from - off)) {
                return what == 0 ? off : from - off;
            }
            if (wouldBeAlone(p, from + off)) {
                return what == 0 ? off : from + off;
            }
        }
        return NONE;
    }

    public int breakwater(int what) {
        if (!within(what, 0, 1)) {
            return BAD;
        }
        int seen = now.seenBits();
        // All being HIDDEN, there is nobody left to be near: this set does in any case.
        int best = seen;
        for (int set = 0; set < seen; set++) {
            boolean ofSeen = (set & ~seen) == 0;
            if (ofSeen && Integer.bitCount(set) < Integer.bitCount(best) && othersAloneWithout(set)) {
                best = set;
            }
        }
        return what == 0 ? best : Integer.bitCount(best);
    }

    public int gap(int what) {
        if (!within(what, 0, 1)) {
            return BAD;
        }
        int pair = NONE;
        int widest = NONE;
        for (int a = 0; a < now.people; a++) {
            for (int b = 0; b < now.people; b++) {
                if (now.areNeighbours(a, b) && now.place[b] - now.place[a] > widest) {
                    widest = now.place[b] - now.place[a];
                    pair = 10 * a + b;
                }
            }
        }
        return what == 0 ? pair : widest;
    }

    public long middle(int part) {
        long sum = 0;
        long there = 0;
        for (int p = 0; p < now.people; p++) {
            if (now.place[p] != NONE) {
                sum += now.place[p];
                there++;
            }
        }
        return fraction(sum, there, part);
    }

    // ---- told hours

    public int judge(int s) {
        int refusal = refusalToJudge(s);
        if (refusal != 0) {
            return refusal;
        }
        thought.becomes(now);
        return firstOtherwise(s);
    }

    public int kinds(int s, int p, int sort) {
        int refusal = refusalToJudge(s);
        if (refusal != 0) {
            return refusal;
        }
        if (!now.has(p)) {
            return NO_SUCH_ONE;
        }
        if (!within(sort, 0, 1)) {
            return NOT_AS_TOLD;
        }
        int choices = sort == 0 ? KINDS : MOST_MORE + 1;
        int bits = 0;
        for (int k = 0; k < choices; k++) {
            thought.becomes(now);
            if (sort == 0) {
                thought.kind[p] = k;
            } else {
                thought.more[p] = k;
            }
            if (firstOtherwise(s) == NONE) {
                bits |= 1 << k;
            }
        }
        return bits;
    }

    public long places(int s, int p) {
        if (refusalToJudge(s) != 0 || !now.has(p) || now.place[p] == NONE) {
            return NO;
        }
        long bits = 0;
        for (int c = 0; c < PLACES; c++) {
            thought.becomes(now);
            thought.place[p] = c;
            if (firstOtherwise(s) == NONE) {
                bits |= 1L << c;
            }
        }
        return bits;
    }

    public int turned(int s) {
        int refusal = refusalToJudge(s);
        if (refusal != 0) {
            return refusal;
        }
        int bits = 0;
        for (int p = 0; p < now.people; p++) {
            thought.becomes(now);
            thought.hidden[p] = !now.hidden[p];
            if (firstOtherwise(s) == NONE) {
                bits |= 1 << p;
            }
        }
        return bits;
    }

    public int waits(int s, int p, int what) {
        int refusal = refusalToJudge(s);
        if (refusal != 0) {
            return refusal;
        }
        if (!now.has(p)) {
            return NO_SUCH_ONE;
        }
        if (!within(what, 0, 1)) {
            return NOT_AS_TOLD;
        }
        int fitting = 0;
        int least = NONE;
        for (int w = LONGEST_WAIT; w >= 0; w--) {
            thought.becomes(now);
            thought.waited[p] = w;
            if (firstOtherwise(s) == NONE) {
                fitting++;
                least = w;
            }
        }
        return what == 0 ? fitting : least;
    }

    public int laws(int s) {
        int refusal = refusalToJudge(s);
        if (refusal != 0) {
            return refusal;
        }
        int bits = 0;
        for (int t = 0; t < texts.known; t++) {
            thought.becomes(now);
            thought.law = t;
            if (firstOtherwise(s) == NONE) {
                bits |= 1 << t;
            }
        }
        return bits;
    }

    public int film(int s, int n) {
        if (!sheets.has(s)) {
            return BAD;
        }
        if (!within(n, 0, HOURS_TOLD)) {
            return NOT_AS_TOLD;
        }
        sheets.renew(s, BYTES, n);
        thought.becomes(now);
        for (int h = 0; h < n; h++) {
            sheets.write(s, h, thought.passHour() + 1);
        }
        return n;
    }

    // ---- gulls by lots

    public int drawn(int seed, int what) {
        if (!within(seed, 0, LAST_SEED) || !within(what, 0, 1)) {
            return BAD;
        }
        int fetched = fetchedAmongGulls(seed);
        return what == 0 ? fetched : thought.overBits();
    }

    public long odds(int seed, int seeds, int least, int part) {
        if (!within(seed, 0, LAST_SEED) || !within(seeds, 1, MOST_SEEDS) || !within(least, 0, HOURS_OF_GULLS)) {
            return NO;
        }
        int enough = 0;
        for (int i = 0; i < seeds; i++) {
            if (fetchedAmongGulls(seed + i) >= least) {
                enough++;
            }
        }
        return fraction(enough, seeds, part);
    }

    public int image() {
        kept.becomes(now);
        imageIsKept = true;
        return now.people;
    }

    public int back() {
        if (!imageIsKept) {
            return STATE;
        }
        now.becomes(kept);
        return now.people;
    }

    // ---- the host

    public int sheet(int s, int sort, int n) {
        if (!sheets.has(s) || !within(sort, MISSING, INTS)) {
            return BAD;
        }
        if (sort == MISSING) {
            sheets.renew(s, MISSING, 0);
            return 1;
        }
        if (n > SHEET_SIZE) {
            return BAD;
        }
        if (n < 0) {
            return SIZE_BELOW_0;
        }
        sheets.renew(s, sort, n);
        return 1;
    }

    public int cell(int s, int i, int v) {
        if (!sheets.has(s)) {
            return BAD;
        }
        if (sheets.sort[s] == MISSING) {
            return NOTHING_THERE;
        }
        if (!within(i, 0, sheets.size[s] - 1)) {
            return OUTSIDE;
        }
        sheets.write(s, i, v);
        return 1;
    }

    public int copy(int s, int i, int other, int j, int n) {
        if (!sheets.has(s) || !sheets.has(other)) {
            return BAD;
        }
        if (sheets.sort[s] == MISSING || sheets.sort[other] == MISSING) {
            return NOTHING_THERE;
        }
        if (sheets.sort[s] != sheets.sort[other]) {
            return UNLIKE;
        }
        if (n < 0 || !sheets.holds(s, i, n) || !sheets.holds(other, j, n)) {
            return OUTSIDE;
        }
        sheets.carry(s, i, other, j, n);
        return n;
    }

    public int peopleBy(int s, int sort, int from, int n) {
        if (!sheets.has(s) || !within(sort, BYTES, INTS) || !within(n, 0, PEOPLE)) {
            return BAD;
        }
        if (sheets.sort[s] == MISSING) {
            return NOTHING_THERE;
        }
        if (sheets.sort[s] != sort) {
            return UNLIKE;
        }
        int came = 0;
        for (int k = 0; k < n; k++) {
            long at = from + 2L * k;
            if (!sheets.holds(s, at, 2)) {
                return OUTSIDE;
            }
            int i = (int) at;
            if (now.welcome(sheets.read(s, i), sheets.read(s, i + 1)) >= 0) {
                came++;
            }
        }
        return came;
    }

    public int taken(int i, int kind) {
        if (!within(kind, 0, WAITED_KIND)) {
            return BAD;
        }
        if (!within(i, 0, 2 * PEOPLE - 1)) {
            return OUTSIDE;
        }
        int p = i % PEOPLE;
        boolean ofWait = i >= PEOPLE;
        if (!now.has(p)) {
            return NOTHING_THERE;
        }
        if (ofWait) {
            return kind == WAITED_KIND ? now.waited[p] : UNLIKE;
        }
        return isOfKind(now.kind[p], kind) ? p : UNLIKE;
    }

    // ---- what the calls share

    private static boolean within(int v, int least, int most) {
        return v >= least && v <= most;
    }

    private static boolean isByte(int v) {
        return within(v, 0, LAST_BYTE);
    }

    private static int bit(boolean so) {
        return so ? 1 : 0;
    }

    private void tapeOne(int v) {
        if (taped < TAPE_SIZE) {
            tape[taped] = v;
            taped++;
        }
    }

    private static boolean isOfKind(int own, int kind) {
        return kind == TRAVELLER || own == kind
                || kind == PRIEST && own == CHILD
                || kind == POPULAR && own == DOG;
    }

    private int fetchedInThought(int n) {
        int fetched = 0;
        for (int h = 0; h < n; h++) {
            if (thought.passHour() != NONE) {
                fetched++;
            }
        }
        return fetched;
    }

    /** Behind how many HOURS, most at the most, one is OVER in thought; NONE: not by then. */
    private int hoursTillOver(int p, int most) {
        for (int h = 0; h <= most; h++) {
            if (thought.isOver(p)) {
                return h;
            }
            // The HOUR behind the last that is asked for would tell nothing more.
            if (h < most) {
                thought.passHour();
            }
        }
        return NONE;
    }

    private boolean wouldBeAlone(int p, int c) {
        if (!within(c, 0, LAST_PLACE)) {
            return false;
        }
        thought.place[p] = c;
        return thought.isAlone(p);
    }

    private boolean othersAloneWithout(int set) {
        thought.becomes(now);
        for (int p = 0; p < now.people; p++) {
            if ((set >> p & 1) == 1) {
                thought.hidden[p] = true;
            }
        }
        return thought.aloneBits() == thought.seenBits();
    }

    /** What judge() refuses a SHEET for, or 0. */
    private int refusalToJudge(int s) {
        if (!sheets.has(s)) {
            return BAD;
        }
        if (sheets.sort[s] == MISSING) {
            return NOTHING_THERE;
        }
        return sheets.size[s] > HOURS_TOLD ? BAD : 0;
    }

    /** The first number of a SHEET that is otherwise than the HOURS in thought, or NONE. */
    private int firstOtherwise(int s) {
        for (int h = 0; h < sheets.size[s]; h++) {
            if (thought.passHour() + 1 != sheets.read(s, h)) {
                return h;
            }
        }
        return NONE;
    }

    /** How many are FETCHED by the GULLS of a SEED; the HOURS stand in thought then. */
    private int fetchedAmongGulls(int seed) {
        thought.becomes(now);
        long lot = seed + 1L;
        int fetched = 0;
        for (int h = 0; h < HOURS_OF_GULLS; h++) {
            lot = lotAfter(lot);
            int who = (int) (lot % PEOPLE);
            lot = lotAfter(lot);
            if (thought.has(who) && thought.place[who] != NONE) {
                thought.place[who] = (int) (lot % PLACES);
            }
            if (thought.passHour() != NONE) {
                fetched++;
            }
        }
        return fetched;
    }

    private static long lotAfter(long lot) {
        return lot * LOT_FACTOR % LOT_MODULUS;
    }

    private static long fraction(long above, long below, int part) {
        if (below < 1 || !within(part, 0, 1)) {
            return NO;
        }
        long a = below;
        long b = above;
        for (int i = 0; i < FRACTION_STEPS && b != 0; i++) {
            long rest = a % b;
            a = b;
            b = rest;
        }
        if (a == 0) {
            return NO;
        }
        return (part == 0 ? above : below) / a;
    }

    /** THE FERRY and PEOPLE as they are, were, or would be. */
    private static final class Strand {
        final Texts texts;
        final int[] kind = new int[PEOPLE];
        final int[] more = new int[PEOPLE];
        final int[] place = new int[PEOPLE];
        final boolean[] hidden = new boolean[PEOPLE];
        final int[] waited = new int[PEOPLE];
        int people = 0;
        int hour = 0;
        int out = 0;
        int boat = NONE;
        int fetched = 0;
        int law = 0;

        Strand(Texts texts) {
            this.texts = texts;
        }

        void becomes(Strand other) {
            for (int p = 0; p < other.people; p++) {
                kind[p] = other.kind[p];
                more[p] = other.more[p];
                place[p] = other.place[p];
                hidden[p] = other.hidden[p];
                waited[p] = other.waited[p];
            }
            people = other.people;
            hour = other.hour;
            out = other.out;
            boat = other.boat;
            fetched = other.fetched;
            law = other.law;
        }

        /** Of a long, so that a caller may subtract without wrapping round. */
        boolean has(long p) {
            return p >= 0 && p < people;
        }

        int welcome(int kindMore, int at) {
            if (!within(kindMore, 0, KINDS * 10 - 1) || !within(at, 0, LAST_PLACE)) {
                return BAD;
            }
            if (people >= PEOPLE) {
                return FULL;
            }
            int p = people;
            kind[p] = kindMore / 10;
            more[p] = kindMore % 10;
            place[p] = at;
            hidden[p] = false;
            waited[p] = 0;
            people++;
            return p;
        }

        boolean isSeen(int p) {
            return place[p] != NONE && !hidden[p];
        }

        boolean isOver(int p) {
            return place[p] == NONE && boat != p;
        }

        boolean isAlone(int p) {
            if (!isSeen(p)) {
                return false;
            }
            int gap = gapAbout(p);
            for (int q = 0; q < people; q++) {
                if (q != p && isSeen(q) && Math.abs(place[q] - place[p]) < gap) {
                    return false;
                }
            }
            return true;
        }

        int farFrom(int p) {
            int far = NONE;
            for (int q = 0; q < people; q++) {
                if (q != p && isSeen(q) && place[p] != NONE) {
                    int between = Math.abs(place[q] - place[p]);
                    far = far == NONE ? between : Math.min(far, between);
                }
            }
            return far;
        }

        /** Two who are SEEN, nobody SEEN between them, the one who comes first told first. */
        boolean areNeighbours(int a, int b) {
            boolean inOrder = place[a] < place[b] || place[a] == place[b] && a < b;
            if (!inOrder || !isSeen(a) || !isSeen(b)) {
                return false;
            }
            for (int q = 0; q < people; q++) {
                if (isSeen(q) && place[q] > place[a] && place[q] < place[b]) {
                    return false;
                }
            }
            return true;
        }

        int gapAbout(int p) {
            switch (kind[p]) {
                case PRIEST:
                case CHILD:
                    return texts.says(GAPS_PART, this, p) / 2;
                case POPULAR:
                case DOG:
                    return texts.says(GAPS_PART, this, p) + more[p];
                case LAMP:
                    return 0;
                default:
                    return texts.says(GAPS_PART, this, p);
            }
        }

        int likedHow(int p) {
            switch (kind[p]) {
                case CHILD:
                    return hour % 4 == 0 ? 99 : texts.says(LIKES_PART, this, p) - more[p];
                case PRIEST:
                    return texts.says(LIKES_PART, this, p) - more[p];
                case DOG:
                    return -texts.says(LIKES_PART, this, p);
                case LAMP:
                    return 10 * more[p];
                default:
                    return texts.says(LIKES_PART, this, p);
            }
        }

        int walksFar(int p) {
            switch (kind[p]) {
                case POPULAR:
                    return texts.says(WALKS_PART, this, p) + (isAlone(p) ? 1 : 0);
                case CHILD:
                    return isAlone(p) ? 0 : -1 - texts.says(WALKS_PART, this, p);
                case DOG:
                    return hour % 2 == 0 ? more[p] : -more[p];
                default:
                    return texts.says(WALKS_PART, this, p);
            }
        }

        int choice() {
            int who = NONE;
            int most = 0;
            for (int p = 0; p < people; p++) {
                if (isAlone(p)) {
                    int liked = likedHow(p);
                    if (who == NONE || liked > most) {
                        who = p;
                        most = liked;
                    }
                }
            }
            return who;
        }

        void goOn(int p, int far) {
            place[p] = Math.max(0, Math.min(LAST_PLACE, place[p] + far));
        }

        /** An HOUR: who is FETCHED in it, or NONE. */
        int passHour() {
            int who = NONE;
            if (out > 0) {
                out--;
                if (out == 0) {
                    boat = NONE;
                }
            } else {
                who = choice();
                fetch(who);
            }
            for (int p = 0; p < people; p++) {
                if (place[p] != NONE) {
                    goOn(p, walksFar(p));
                    waited[p] = Math.min(LONGEST_WAIT, waited[p] + 1);
                }
            }
            hour++;
            return who;
        }

        void fetch(int who) {
            if (who == NONE) {
                return;
            }
            out = 1 + Math.abs(2 * place[who] - LAST_PLACE) / 20;
            place[who] = NONE;
            boat = who;
            fetched = Math.min(MOST_FETCHED, fetched + 1);
        }

        int aloneBits() {
            int bits = 0;
            for (int p = 0; p < people; p++) {
                if (isAlone(p)) {
                    bits |= 1 << p;
                }
            }
            return bits;
        }

        int seenBits() {
            int bits = 0;
            for (int p = 0; p < people; p++) {
                if (isSeen(p)) {
                    bits |= 1 << p;
                }
            }
            return bits;
        }

        int overBits() {
            int bits = 0;
            for (int p = 0; p < people; p++) {
                if (isOver(p)) {
                    bits |= 1 << p;
                }
            }
            return bits;
        }

        /** Calls nothing further, as it stands where the calls are at their deepest. */
        int valueOf(int name, int p) {
            switch (name) {
                case SAY_PLACE: return place[p] == NONE ? 0 : place[p];
                case SAY_WAITED: return waited[p];
                case SAY_HOUR: return hour;
                case SAY_FETCHED: return fetched;
                case SAY_MORE: return more[p];
                default: break;
            }
            int seen = 0;
            for (int q = 0; q < people; q++) {
                if (place[q] != NONE && !hidden[q]) {
                    seen++;
                }
            }
            return seen;
        }
    }

    /** TEXTS as they have been read: numbers and names first, then what is done with them. */
    private static final class Texts {
        // No TEXT has more of them than its TAPE had bytes, and none needs a taller pile.
        final int[] code = new int[TEXTS * TAPE_SIZE];
        final int[] from = new int[TEXTS * PARTS];
        final int[] to = new int[TEXTS * PARTS];
        final int[] pile = new int[TAPE_SIZE];
        int known = 0;

        void addFirstLaw() {
            code[0] = 5;
            code[1] = SAY_WAITED;
            code[2] = 0;
            for (int part = 0; part < PARTS; part++) {
                from[part] = part;
                to[part] = part + 1;
            }
            known = 1;
        }

        /** What a part of THE LAW of a Strand says of one of its PEOPLE. */
        int says(int part, Strand strand, int p) {
            int i = strand.law * PARTS + part;
            int top = -1;
            for (int k = from[i]; k < to[i]; k++) {
                int step = code[k];
                if (step >= LAST_NAME) {
                    top++;
                    if (top >= TAPE_SIZE) {
                        return 0;
                    }
                    pile[top] = step >= 0 ? step : strand.valueOf(step, p);
                } else if (step >= LAST_UNARY) {
                    if (top < 0) {
                        return 0;
                    }
                    pile[top] = step == NEGATE ? -pile[top] : pile[top] == 0 ? 1 : 0;
                } else {
                    top--;
                    if (top < 0) {
                        return 0;
                    }
                    pile[top] = joined(step, pile[top], pile[top + 1]);
                }
            }
            int said = top < 0 ? 0 : pile[top];
            int least = part == GAPS_PART ? 0 : -MOST_SAID;
            return Math.max(least, Math.min(MOST_SAID, said));
        }

        private static int joined(int step, int a, int b) {
            switch (step) {
                case OR: return a != 0 || b != 0 ? 1 : 0;
                case AND: return a != 0 && b != 0 ? 1 : 0;
                case LESS: return a < b ? 1 : 0;
                case EQUAL: return a == b ? 1 : 0;
                case PLUS: return a + b;
                case MINUS: return a - b;
                case TIMES: return a * b;
                default: return 0;
            }
        }
    }

    /** Reads THE TAPE, and writes what it reads where the next TEXT will be. */
    private static final class Reader {
        final int[] tape;
        final Texts texts;
        int size = 0;
        int next = 0;
        int start = 0;
        int token = END;
        int number = 0;
        int fault = NONE;
        int written = 0;

        Reader(int[] tape, Texts texts) {
            this.tape = tape;
            this.texts = texts;
        }

        /** The place of the FAULT of so many bytes, or NONE. */
        int faultOf(int bytes) {
            size = Math.min(bytes, TAPE_SIZE);
            next = 0;
            fault = NONE;
            written = texts.known * TAPE_SIZE;
            take();
            for (int part = 0; part < PARTS; part++) {
                int i = texts.known * PARTS + part;
                expect(GAPS + part);
                texts.from[i] = written;
                either(0);
                texts.to[i] = written;
                expect(SEMICOLON);
            }
            expect(END);
            return fault;
        }

        /** Behind a FAULT no TOKEN fits any more, so that the reading runs out by itself. */
        private void fail() {
            if (fault == NONE) {
                fault = start;
            }
            token = WRONG;
        }

        private void expect(int wanted) {
            if (token == wanted) {
                take();
            } else {
                fail();
            }
        }

        private void write(int step) {
            if (written < TEXTS * TAPE_SIZE) {
                texts.code[written] = step;
                written++;
            }
        }

        private void either(int open) {
            both(open);
            for (int i = 0; i < TAPE_SIZE && token == OR; i++) {
                take();
                both(open);
                write(OR);
            }
        }

        private void both(int open) {
            negation(open);
            for (int i = 0; i < TAPE_SIZE && token == AND; i++) {
                take();
                negation(open);
                write(AND);
            }
        }

        private void negation(int open) {
            if (token != NOT) {
                comparison(open);
            } else if (open >= MOST_OPEN) {
                fail();
            } else {
                take();
                negation(open + 1);
                write(NOT);
            }
        }

        private void comparison(int open) {
            sum(open);
            int sign = token;
            if (sign == LESS || sign == EQUAL) {
                take();
                sum(open);
                write(sign);
            }
        }

        private void sum(int open) {
            term(open);
            for (int i = 0; i < TAPE_SIZE && (token == PLUS || token == MINUS); i++) {
                int sign = token;
                take();
                term(open);
                write(sign);
            }
        }

        private void term(int open) {
            one(open);
            for (int i = 0; i < TAPE_SIZE && token == TIMES; i++) {
                take();
                one(open);
                write(TIMES);
            }
        }

        private void one(int open) {
            boolean opens = token == MINUS || token == OPEN;
            if (token == NUMBER) {
                write(number);
                take();
            } else if (token <= SAY_PLACE && token >= LAST_NAME) {
                write(token);
                take();
            } else if (!opens || open >= MOST_OPEN) {
                fail();
            } else if (token == MINUS) {
                take();
                one(open + 1);
                write(NEGATE);
            } else {
                take();
                either(open + 1);
                expect(CLOSE);
            }
        }

        private void take() {
            if (fault != NONE) {
                return;
            }
            for (int i = next; i < size && (tape[i] == ' ' || tape[i] == '\n'); i++) {
                next = i + 1;
            }
            start = next;
            if (next >= size) {
                token = END;
            } else if (isLetter(tape[next])) {
                takeWord();
            } else if (isDigit(tape[next])) {
                takeNumber();
            } else {
                token = signOf(tape[next]);
                next++;
            }
        }

        private void takeWord() {
            for (int i = start; i < size && isLetter(tape[i]); i++) {
                next = i + 1;
            }
            token = isWord("gaps") ? GAPS
                    : isWord("likes") ? LIKES
                    : isWord("walks") ? WALKS
                    : isWord("or") ? OR
                    : isWord("and") ? AND
                    : isWord("not") ? NOT
                    : isWord("place") ? SAY_PLACE
                    : isWord("waited") ? SAY_WAITED
                    : isWord("hour") ? SAY_HOUR
                    : isWord("seen") ? SAY_SEEN
                    : isWord("fetched") ? SAY_FETCHED
                    : isWord("more") ? SAY_MORE
                    : WRONG;
        }

        private boolean isWord(String word) {
            if (next - start != word.length()) {
                return false;
            }
            for (int i = 0; i < word.length(); i++) {
                if (tape[start + i] != word.charAt(i)) {
                    return false;
                }
            }
            return true;
        }

        private void takeNumber() {
            number = 0;
            for (int i = start; i < size && isDigit(tape[i]); i++) {
                next = i + 1;
                // A NUMBER that is too long wraps round here and is thrown away below.
                number = number * 10 + tape[i] - '0';
            }
            token = next - start > LONGEST_NUMBER ? WRONG : NUMBER;
        }

        private static boolean isLetter(int c) {
            return c >= 'a' && c <= 'z';
        }

        private static boolean isDigit(int c) {
            return c >= '0' && c <= '9';
        }

        private static int signOf(int c) {
            switch (c) {
                case '(': return OPEN;
                case ')': return CLOSE;
                case ';': return SEMICOLON;
                case '+': return PLUS;
                case '-': return MINUS;
                case '*': return TIMES;
                case '<': return LESS;
                case '=': return EQUAL;
                default: return WRONG;
            }
        }
    }

    /** SHEETS, each in its own forty cells of one row that is made once. */
    private static final class Sheets {
        final int[] cells = new int[SHEETS * SHEET_SIZE];
        final int[] sort = new int[SHEETS];
        final int[] size = new int[SHEETS];

        Sheets() {
            for (int s = 0; s < SHEETS; s++) {
                sort[s] = MISSING;
            }
        }

        boolean has(int s) {
            return s >= 0 && s < SHEETS;
        }

        boolean holds(int s, long i, int n) {
            return i >= 0 && i + n <= size[s];
        }

        void renew(int s, int newSort, int newSize) {
            sort[s] = newSort;
            size[s] = newSize;
            for (int i = 0; i < newSize; i++) {
                cells[s * SHEET_SIZE + i] = 0;
            }
        }

        int read(int s, int i) {
            return cells[s * SHEET_SIZE + i];
        }

        void write(int s, int i, int v) {
            int kept = sort[s] == BYTES ? (byte) v : sort[s] == SHORTS ? (short) v : v;
            cells[s * SHEET_SIZE + i] = kept;
        }

        void carry(int s, int i, int other, int j, int n) {
            // arraycopy takes all as they were, also where the two stretches lie over each other.
            System.arraycopy(cells, s * SHEET_SIZE + i, cells, other * SHEET_SIZE + j, n);
        }
    }
}
