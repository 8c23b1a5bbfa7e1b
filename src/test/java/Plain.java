import java.util.ArrayList;
import java.util.Arrays;
import java.util.LinkedHashMap;
import java.util.List;
import java.util.Map;
import java.util.function.IntPredicate;
import java.util.regex.Matcher;
import java.util.regex.Pattern;
import java.util.stream.IntStream;

/**
 * A second reading of DOC.md, slow and as near to its words as can be, with none of the program's ways: states are
 * copied whole, texts are trees. AgainstPlainTest asks it the same calls as the program.
 */
public final class Plain {
    static final long NO = -4611686018427387904L;
    private static final int[] ABOVE = {-1, 0, 0, 1, 2, 0};

    /** What a text says of one of the people of a state. */
    interface Said {
        int of(State state, Person one);
    }

    static final class Person {
        int number;
        int kind;
        int more;
        Integer at;
        boolean hidden;
        int waited;

        Person copy() {
            Person other = new Person();
            other.number = number;
            other.kind = kind;
            other.more = more;
            other.at = at;
            other.hidden = hidden;
            other.waited = waited;
            return other;
        }

        boolean seen() {
            return at != null && !hidden;
        }

        boolean isA(int of) {
            for (int k = kind; k >= 0; k = ABOVE[k]) {
                if (k == of) {
                    return true;
                }
            }
            return false;
        }
    }

    static final class State {
        List<Person> people = new ArrayList<>();
        int hour;
        int out;
        Person boat;
        int fetched;
        int law;
        List<Said[]> texts;

        State copy() {
            State other = new State();
            for (Person one : people) {
                other.people.add(one.copy());
            }
            other.hour = hour;
            other.out = out;
            other.boat = boat == null ? null : other.people.get(boat.number);
            other.fetched = fetched;
            other.law = law;
            other.texts = texts;
            return other;
        }

        int says(int part, Person one) {
            int said = texts.get(law)[part].of(this, one);
            int least = part == 0 ? 0 : -99;
            return said < least ? least : said > 99 ? 99 : said;
        }

        int gapOf(Person one, int as) {
            switch (as) {
                case 1: return gapOf(one, 0) / 2;
                case 2: return gapOf(one, 0) + one.more;
                case 5: return 0;
                case 0: return says(0, one);
                default: return gapOf(one, ABOVE[as]);
            }
        }

        int likedOf(Person one, int as) {
            switch (as) {
                case 0: return says(1, one);
                case 1: return likedOf(one, 0) - one.more;
                case 3: return hour % 4 == 0 ? 99 : likedOf(one, 1);
                case 4: return 0 - likedOf(one, 2);
                case 5: return 10 * one.more;
                default: return likedOf(one, ABOVE[as]);
            }
        }

        int walksOf(Person one, int as) {
            switch (as) {
                case 0: return says(2, one);
                case 2: return walksOf(one, 0) + (alone(one) ? 1 : 0);
                case 3: return alone(one) ? 0 : 0 - 1 - walksOf(one, 1);
                case 4: return hour % 2 == 0 ? one.more : 0 - one.more;
                default: return walksOf(one, ABOVE[as]);
            }
        }

        Integer far(Person one) {
            return one.at == null ? null : people.stream().filter(q -> q != one && q.seen())
                    .map(q -> Math.abs(q.at - one.at)).min(Integer::compare).orElse(null);
        }

        boolean alone(Person one) {
            return one.seen() && (far(one) == null || far(one) >= gapOf(one, one.kind));
        }

        boolean over(Person one) {
            return one.at == null && one != boat;
        }

        Person choice() {
            Person best = null;
            for (Person one : people) {
                if (alone(one) && (best == null || likedOf(one, one.kind) > likedOf(best, best.kind))) {
                    best = one;
                }
            }
            return best;
        }

        /** 1 more than who is fetched; 0: nobody. */
        int pass() {
            int who = 0;
            if (out != 0) {
                out -= 1;
                boat = out == 0 ? null : boat;
            } else if (choice() != null) {
                Person one = choice();
                who = one.number + 1;
                boat = one;
                out = 1 + Math.abs(2 * one.at - 63) / 20;
                one.at = null;
                fetched = Math.min(9999, fetched + 1);
            }
            for (Person one : people) {
                if (one.at != null) {
                    one.at = Math.min(63, Math.max(0, one.at + walksOf(one, one.kind)));
                    one.waited = Math.min(99, one.waited + 1);
                }
            }
            hour++;
            return who;
        }

        List<Integer> passMany(int n) {
            List<Integer> all = new ArrayList<>();
            for (int h = 0; h < n; h++) {
                all.add(pass());
            }
            return all;
        }

        int bits(java.util.function.Predicate<Person> which) {
            return people.stream().filter(which).mapToInt(one -> 1 << one.number).sum();
        }
    }

    /** A fault of a text. */
    static final class Fault extends RuntimeException {
        final int place;

        Fault(int place) {
            this.place = place;
        }
    }

    static final class Parser {
        static final Pattern TOKEN = Pattern.compile("[a-z]+|[0-9]+|[();+\\-*<=]");
        static final List<String> KEYS = List.of("gaps", "likes", "walks", "or", "and", "not");
        static final Map<String, Said> NAMES = new LinkedHashMap<>();

        static {
            NAMES.put("place", (s, one) -> one.at == null ? 0 : one.at);
            NAMES.put("waited", (s, one) -> one.waited);
            NAMES.put("hour", (s, one) -> s.hour);
            NAMES.put("seen", (s, one) -> (int) s.people.stream().filter(Person::seen).count());
            NAMES.put("fetched", (s, one) -> s.fetched);
            NAMES.put("more", (s, one) -> one.more);
        }

        final String tape;
        int at;
        int open;

        Parser(String tape) {
            this.tape = tape;
        }

        void skip() {
            while (at < tape.length() && (tape.charAt(at) == 32 || tape.charAt(at) == 10)) {
                at++;
            }
        }

        /** The next token, or "" at the end; a fault if there is none. */
        String peek() {
            skip();
            if (at == tape.length()) {
                return "";
            }
            Matcher m = TOKEN.matcher(tape);
            m.region(at, tape.length());
            if (!m.lookingAt()) {
                throw new Fault(at);
            }
            String token = m.group();
            boolean word = Character.isLetter(token.charAt(0));
            boolean number = Character.isDigit(token.charAt(0));
            if (word && !KEYS.contains(token) && !NAMES.containsKey(token) || number && token.length() > 4) {
                throw new Fault(at);
            }
            return token;
        }

        boolean took(String token) {
            if (peek().equals(token)) {
                at += token.length();
                return true;
            }
            return false;
        }

        void must(String token) {
            if (!took(token)) {
                throw new Fault(at);
            }
        }

        void opens() {
            if (open == 5) {
                throw new Fault(at);
            }
            open++;
        }

        Said[] text() {
            Said[] parts = new Said[3];
            for (int i = 0; i < 3; i++) {
                must(KEYS.get(i));
                parts[i] = e();
                must(";");
            }
            if (!peek().isEmpty()) {
                throw new Fault(at);
            }
            return parts;
        }

        Said e() {
            Said a = and();
            while (took("or")) {
                Said x = a;
                Said y = and();
                a = (s, one) -> x.of(s, one) != 0 | y.of(s, one) != 0 ? 1 : 0;
            }
            return a;
        }

        Said and() {
            Said a = not();
            while (took("and")) {
                Said x = a;
                Said y = not();
                a = (s, one) -> x.of(s, one) != 0 & y.of(s, one) != 0 ? 1 : 0;
            }
            return a;
        }

        Said not() {
            if (peek().equals("not")) {
                opens();
                took("not");
                Said x = not();
                open--;
                return (s, one) -> x.of(s, one) != 0 ? 0 : 1;
            }
            Said x = sum();
            if (took("<")) {
                Said y = sum();
                return (s, one) -> x.of(s, one) < y.of(s, one) ? 1 : 0;
            }
            if (took("=")) {
                Said y = sum();
                return (s, one) -> x.of(s, one) == y.of(s, one) ? 1 : 0;
            }
            return x;
        }

        Said sum() {
            Said a = term();
            while (true) {
                Said x = a;
                if (took("+")) {
                    Said y = term();
                    a = (s, one) -> x.of(s, one) + y.of(s, one);
                } else if (took("-")) {
                    Said y = term();
                    a = (s, one) -> x.of(s, one) - y.of(s, one);
                } else {
                    return a;
                }
            }
        }

        Said term() {
            Said a = one();
            while (took("*")) {
                Said x = a;
                Said y = one();
                a = (s, one) -> x.of(s, one) * y.of(s, one);
            }
            return a;
        }

        Said one() {
            String token = peek();
            if (token.equals("-")) {
                opens();
                took("-");
                Said x = one();
                open--;
                return (s, one) -> -x.of(s, one);
            }
            if (token.equals("(")) {
                opens();
                took("(");
                Said x = e();
                must(")");
                open--;
                return x;
            }
            if (NAMES.containsKey(token)) {
                took(token);
                return NAMES.get(token);
            }
            if (!token.isEmpty() && Character.isDigit(token.charAt(0))) {
                took(token);
                int v = Integer.parseInt(token);
                return (s, one) -> v;
            }
            throw new Fault(at);
        }
    }

    private final StringBuilder tape = new StringBuilder();
    private final List<Said[]> texts = new ArrayList<>();
    private State now = new State();
    private State image;
    private final int[] sorts = {-1, -1, -1, -1};
    private final int[][] sheets = new int[4][];

    public Plain() {
        texts.add(new Parser("gaps 5 ; likes waited ; walks 0 ;").text());
        now.texts = texts;
    }

    private static boolean in(int v, int a, int b) {
        return a <= v && v <= b;
    }

    private Person person(int p) {
        return in(p, 0, now.people.size() - 1) ? now.people.get(p) : null;
    }

    private static int number(Person one) {
        return one == null ? -1 : one.number;
    }

    private static int place(Person one) {
        return one.at == null ? -1 : one.at;
    }

    public int count(int what) {
        int[] all = {now.people.size(), now.hour, now.fetched, texts.size(), now.law, tape.length()};
        return in(what, 0, 5) ? all[what] : -2;
    }

    public int bay(int what, int v) {
        if (!in(what, 0, 1) || !in(v, 0, what == 0 ? 9999 : 99)) {
            return -2;
        }
        int was = what == 0 ? now.hour : now.out;
        if (what == 0) {
            now.hour = v;
        } else {
            now.out = v;
        }
        return was;
    }

    public int ferry(int what) {
        int[] all = {now.out, number(now.boat), number(now.choice()), now.bits(now::alone), now.bits(Person::seen),
            now.bits(now::over)};
        return in(what, 0, 5) ? all[what] : -7;
    }

    public int feed(int n, int a, int b, int c, int d, int e) {
        int[] five = {a, b, c, d, e};
        if (!in(n, 1, 5) || Arrays.stream(five).anyMatch(v -> !in(v, 0, 255))) {
            return -2;
        }
        if (tape.length() + n > 160) {
            return -4;
        }
        for (int i = 0; i < n; i++) {
            tape.append((char) five[i]);
        }
        return tape.length();
    }

    public int text() {
        if (texts.size() == 6) {
            return -4;
        }
        String read = tape.toString();
        tape.setLength(0);
        try {
            texts.add(new Parser(read).text());
            return texts.size() - 1;
        } catch (Fault fault) {
            return -100 - fault.place;
        }
    }

    public int force(int t) {
        if (!in(t, 0, texts.size() - 1)) {
            return -2;
        }
        int was = now.law;
        now.law = t;
        return was;
    }

    public int asks(int part, int p) {
        return !in(part, 0, 2) || person(p) == null ? -1000 : now.says(part, person(p));
    }

    public int traveller(int kindMore, int place) {
        if (!in(kindMore, 0, 59) || !in(place, 0, 63)) {
            return -2;
        }
        if (now.people.size() == 6) {
            return -4;
        }
        Person one = new Person();
        one.number = now.people.size();
        one.kind = kindMore / 10;
        one.more = kindMore % 10;
        one.at = place;
        now.people.add(one);
        return one.number;
    }

    public int put(int p, int what, int v) {
        Person one = person(p);
        if (one == null) {
            return -5;
        }
        int[] least = {-1, 0, 0};
        int[] most = {63, 1, 99};
        if (!in(what, 0, 2) || what == 0 && one == now.boat || !in(v, least[what], most[what])) {
            return -7;
        }
        int was;
        if (what == 0) {
            was = place(one);
            one.at = v == -1 ? null : Integer.valueOf(v);
        } else if (what == 1) {
            was = one.hidden ? 1 : 0;
            one.hidden = v == 1;
        } else {
            was = one.waited;
            one.waited = v;
        }
        return was;
    }

    public int told(int p, int what) {
        Person one = person(p);
        if (one == null) {
            return -5;
        }
        Integer far = now.far(one);
        int[] all = {place(one), one.hidden ? 1 : 0, one.waited, one.kind, one.more, now.gapOf(one, one.kind),
            now.likedOf(one, one.kind) + 1000, now.walksOf(one, one.kind) + 1000, now.alone(one) ? 1 : 0,
            far == null ? -1 : far};
        return in(what, 0, 9) ? all[what] : -7;
    }

    public int hour() {
        return now.hour == 9999 ? -3 : now.pass() - 1;
    }

    public int walk(int p, int far) {
        Person one = person(p);
        if (one == null) {
            return -5;
        }
        if (!in(far, -63, 63)) {
            return -7;
        }
        if (one.at == null) {
            return -3;
        }
        one.at = Math.min(63, Math.max(0, one.at + far));
        return one.at;
    }

    public int run(int n, int what) {
        int who = what >= 20 ? what - 20 : what - 10;
        if (!in(n, 0, 60) || !(in(what, 0, 2) || what >= 10 && person(who) != null)) {
            return -2;
        }
        State then = now.copy();
        List<Integer> fetched = then.passMany(n);
        fetched.removeIf(w -> w == 0);
        StringBuilder digits = new StringBuilder("0");
        fetched.forEach(digits::append);
        switch (what) {
            case 0: return fetched.size();
            case 1: return Integer.parseInt(digits.toString());
            case 2: return then.bits(then::over);
            default: return what < 20 ? place(then.people.get(who)) : then.people.get(who).waited;
        }
    }

    public int when(int p, int what) {
        if (!in(what, 0, 2)) {
            return -7;
        }
        if (what < 2 && person(p) == null) {
            return -5;
        }
        return IntStream.rangeClosed(0, 60).filter(h -> {
            State then = now.copy();
            then.passMany(h);
            return what == 0 ? then.over(then.people.get(p))
                    : what == 1 ? then.alone(then.people.get(p))
                    : then.out == 0 && then.people.stream().noneMatch(then::alone);
        }).findFirst().orElse(-1);
    }

    private static int fetchedIn(State then, int n) {
        return (int) then.passMany(n).stream().filter(w -> w != 0).count();
    }

    public int hide(int n, int what) {
        if (!in(n, 0, 60) || !in(what, 0, 1)) {
            return -2;
        }
        int[] with = new int[now.people.size()];
        int plain = fetchedIn(now.copy(), n);
        for (Person one : now.people) {
            State then = now.copy();
            then.people.get(one.number).hidden = true;
            with[one.number] = one.seen() ? fetchedIn(then, n) : -1;
        }
        int most = Math.max(plain, Arrays.stream(with).max().orElse(-1));
        int who = most == plain ? -1 : IntStream.range(0, with.length).filter(p -> with[p] == most).findFirst().getAsInt();
        return what == 0 ? who : most;
    }

    public int stand(int p, int what) {
        if (person(p) == null) {
            return -5;
        }
        if (!in(what, 0, 1)) {
            return -7;
        }
        if (now.boat == person(p)) {
            return -3;
        }
        int[] hours = new int[64];
        for (int c = 0; c < 64; c++) {
            State then = now.copy();
            then.people.get(p).at = c;
            then.people.get(p).hidden = false;
            hours[c] = 0;
            while (hours[c] <= 60 && !then.over(then.people.get(p))) {
                then.pass();
                hours[c]++;
            }
        }
        int fewest = Arrays.stream(hours).min().getAsInt();
        if (fewest > 60) {
            return -1;
        }
        return what == 1 ? fewest : IntStream.range(0, 64).filter(c -> hours[c] == fewest).findFirst().getAsInt();
    }

    public int apart(int p, int what) {
        if (person(p) == null) {
            return -5;
        }
        if (!in(what, 0, 1)) {
            return -7;
        }
        if (!person(p).seen()) {
            return -1;
        }
        int from = person(p).at;
        int best = -1;
        for (int c = 0; c < 64; c++) {
            State then = now.copy();
            then.people.get(p).at = c;
            if (then.alone(then.people.get(p)) && (best == -1 || Math.abs(c - from) < Math.abs(best - from))) {
                best = c;
            }
        }
        return what == 1 || best == -1 ? best : Math.abs(best - from);
    }

    public int breakwater(int what) {
        if (!in(what, 0, 1)) {
            return -2;
        }
        int best = -1;
        for (int set = 63; set >= 0; set--) {
            if ((set & ~now.bits(Person::seen)) != 0) {
                continue;
            }
            State then = now.copy();
            for (Person one : then.people) {
                one.hidden |= (set >> one.number & 1) == 1;
            }
            boolean all = then.people.stream().filter(Person::seen).allMatch(then::alone);
            if (all && (best == -1 || Integer.bitCount(set) <= Integer.bitCount(best))) {
                best = set;
            }
        }
        return what == 0 ? best : Integer.bitCount(best);
    }

    public int gap(int what) {
        if (!in(what, 0, 1)) {
            return -2;
        }
        int pair = -1;
        int wide = -1;
        List<Person> row = new ArrayList<>(now.people);
        row.removeIf(one -> !one.seen());
        for (Person a : row) {
            for (Person b : row) {
                boolean first = a.at < b.at || a.at.equals(b.at) && a.number < b.number;
                boolean between = row.stream().anyMatch(q -> a.at < q.at && q.at < b.at);
                int pairHere = 10 * a.number + b.number;
                int wideHere = b.at - a.at;
                if (first && !between && (wideHere > wide || wideHere == wide && pairHere < pair)) {
                    pair = pairHere;
                    wide = wideHere;
                }
            }
        }
        return what == 0 ? pair : wide;
    }

    private static long part(long above, long below, int part) {
        long by = Math.max(above, below);
        while (above % by != 0 || below % by != 0) {
            by--;
        }
        return (part == 0 ? above : below) / by;
    }

    public long middle(int part) {
        int[] places = now.people.stream().filter(one -> one.at != null).mapToInt(one -> one.at).toArray();
        return !in(part, 0, 1) || places.length == 0 ? NO : part(Arrays.stream(places).sum(), places.length, part);
    }

    private int refused(int s) {
        return !in(s, 0, 3) ? -2 : sheets[s] == null ? -11 : sheets[s].length > 24 ? -2 : 0;
    }

    private int otherwise(int s, State then) {
        List<Integer> all = then.passMany(sheets[s].length);
        return IntStream.range(0, all.size()).filter(h -> all.get(h) != sheets[s][h]).findFirst().orElse(-1);
    }

    public int judge(int s) {
        return refused(s) != 0 ? refused(s) : otherwise(s, now.copy());
    }

    /** What may be changed in a state, by a number. */
    interface Change {
        void in(State state, int v);
    }

    private long fitting(int s, int most, Change change) {
        long bits = 0;
        for (int v = 0; v <= most; v++) {
            State then = now.copy();
            change.in(then, v);
            bits |= otherwise(s, then) == -1 ? 1L << v : 0;
        }
        return bits;
    }

    public int kinds(int s, int p, int sort) {
        if (refused(s) != 0) {
            return refused(s);
        }
        if (person(p) == null) {
            return -5;
        }
        if (!in(sort, 0, 1)) {
            return -7;
        }
        return (int) (sort == 0 ? fitting(s, 5, (then, v) -> then.people.get(p).kind = v)
                : fitting(s, 9, (then, v) -> then.people.get(p).more = v));
    }

    public long places(int s, int p) {
        return refused(s) != 0 || person(p) == null || person(p).at == null ? NO
                : fitting(s, 63, (then, v) -> then.people.get(p).at = v);
    }

    public int turned(int s) {
        return refused(s) != 0 ? refused(s)
                : (int) fitting(s, now.people.size() - 1, (then, v) -> then.people.get(v).hidden ^= true);
    }

    public int waits(int s, int p, int what) {
        if (refused(s) != 0) {
            return refused(s);
        }
        if (person(p) == null) {
            return -5;
        }
        if (!in(what, 0, 1)) {
            return -7;
        }
        IntPredicate fits = w -> {
            State then = now.copy();
            then.people.get(p).waited = w;
            return otherwise(s, then) == -1;
        };
        return what == 0 ? (int) IntStream.range(0, 100).filter(fits).count()
                : IntStream.range(0, 100).filter(fits).findFirst().orElse(-1);
    }

    public int laws(int s) {
        return refused(s) != 0 ? refused(s) : (int) fitting(s, texts.size() - 1, (then, v) -> then.law = v);
    }

    public int film(int s, int n) {
        if (!in(s, 0, 3)) {
            return -2;
        }
        if (!in(n, 0, 24)) {
            return -7;
        }
        sorts[s] = 0;
        sheets[s] = now.copy().passMany(n).stream().mapToInt(w -> w).toArray();
        return n;
    }

    private State gulled(int seed) {
        State then = now.copy();
        long lot = (seed + 1) * 48271L % 2147483647L;
        int before = then.fetched;
        for (int h = 0; h < 12; h++) {
            long other = lot * 48271L % 2147483647L;
            if (lot % 6 < then.people.size() && then.people.get((int) (lot % 6)).at != null) {
                then.people.get((int) (lot % 6)).at = (int) (other % 64);
            }
            lot = other * 48271L % 2147483647L;
            then.pass();
        }
        // A run of 512 calls never comes near the 9999 at which FETCHED would stay.
        then.fetched -= before;
        return then;
    }

    public int drawn(int seed, int what) {
        if (!in(seed, 0, 99999) || !in(what, 0, 1)) {
            return -2;
        }
        State then = gulled(seed);
        return what == 0 ? then.fetched : then.bits(then::over);
    }

    public long odds(int seed, int seeds, int least, int part) {
        if (!in(seed, 0, 99999) || !in(seeds, 1, 40) || !in(least, 0, 12) || !in(part, 0, 1)) {
            return NO;
        }
        return part(IntStream.range(seed, seed + seeds).filter(s -> gulled(s).fetched >= least).count(), seeds, part);
    }

    public int image() {
        image = now.copy();
        return now.people.size();
    }

    public int back() {
        if (image == null) {
            return -3;
        }
        now = image.copy();
        return now.people.size();
    }

    public int sheet(int s, int sort, int n) {
        if (!in(s, 0, 3) || !in(sort, -1, 2) || sort != -1 && n > 40) {
            return -2;
        }
        if (sort != -1 && n < 0) {
            return -14;
        }
        sorts[s] = sort;
        sheets[s] = sort == -1 ? null : new int[n];
        return 1;
    }

    public int cell(int s, int i, int v) {
        if (!in(s, 0, 3)) {
            return -2;
        }
        if (sheets[s] == null) {
            return -11;
        }
        if (!in(i, 0, sheets[s].length - 1)) {
            return -12;
        }
        sheets[s][i] = sorts[s] == 0 ? (byte) v : sorts[s] == 1 ? (short) v : v;
        return 1;
    }

    public int copy(int s, int i, int other, int j, int n) {
        if (!in(s, 0, 3) || !in(other, 0, 3)) {
            return -2;
        }
        if (sheets[s] == null || sheets[other] == null) {
            return -11;
        }
        if (sorts[s] != sorts[other]) {
            return -13;
        }
        if (n < 0 || i < 0 || j < 0 || (long) i + n > sheets[s].length || (long) j + n > sheets[other].length) {
            return -12;
        }
        int[] were = sheets[s].clone();
        for (int k = 0; k < n; k++) {
            sheets[other][j + k] = were[i + k];
        }
        return n;
    }

    public int peopleBy(int s, int sort, int from, int n) {
        if (!in(s, 0, 3) || !in(sort, 0, 2) || !in(n, 0, 6)) {
            return -2;
        }
        if (sheets[s] == null) {
            return -11;
        }
        if (sorts[s] != sort) {
            return -13;
        }
        int came = 0;
        for (long at = from; at < from + 2L * n; at += 2) {
            if (at < 0 || at + 1 >= sheets[s].length) {
                return -12;
            }
            came += traveller(sheets[s][(int) at], sheets[s][(int) at + 1]) >= 0 ? 1 : 0;
        }
        return came;
    }

    public int taken(int i, int kind) {
        if (!in(kind, 0, 6)) {
            return -2;
        }
        if (!in(i, 0, 11)) {
            return -12;
        }
        Person one = person(i % 6);
        if (one == null) {
            return -11;
        }
        if (i < 6) {
            return kind < 6 && one.isA(kind) ? i : -13;
        }
        return kind == 6 ? one.waited : -13;
    }
}
