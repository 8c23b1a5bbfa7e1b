/** Promises 33 to 37, and what 'Terms' says of sheets, sentence by sentence, at the bounds. */
public final class HostSentencesTest {
    private static final int[] FAR_OFF = {Integer.MIN_VALUE, -1000, 1000, Integer.MAX_VALUE};
    private static final int[] NO_SHEETS = {-1, 4, Integer.MIN_VALUE, Integer.MAX_VALUE};

    private HostSentencesTest() {
    }

    public static void main(String[] args) throws ReflectiveOperationException {
        Sentences.run(HostSentencesTest.class, 33, 34, 35, 36, 37);
    }

    private static void due(String call, long got, long want) {
        Sentences.due(call, got, want);
    }

    private static FerryForAlone six() {
        return Check.strand(0, 1, 0, 11, 0, 21, 0, 31, 0, 41, 0, 51);
    }

    /** SHEET 0 of four bytes, 1 of five, 2 of four shorts, 3 missing. */
    private static FerryForAlone sheets() {
        FerryForAlone x = new FerryForAlone();
        Check.tell(x, 0, 1, 2, 3, 4);
        Check.tell(x, 1, 5, 6, 7, 8, 9);
        x.sheet(2, 1, 4);
        return x;
    }

    /** What stands in the first so many cells of a SHEET of a sort: each is the KIND and MORE of one who comes. */
    private static void holds(FerryForAlone x, int s, int sort, int... cells) {
        int scratch = s == 3 ? 2 : 3;
        for (int i = 0; i < cells.length; i++) {
            x.sheet(scratch, sort, 2);
            due("copy of cell " + i, x.copy(s, i, scratch, 0, 1), 1);
            x.image();
            int p = x.count(0);
            x.peopleBy(scratch, sort, 0, 1);
            due("what stands in cell " + i, x.told(p, 3) * 10 + x.told(p, 4), cells[i]);
            x.back();
        }
        due("behind them", x.copy(s, cells.length, scratch, 0, 1), -12);
    }

    // ---- promise 33

    @Holds("promise 33: sheets are 0 .. 3, else BAD")
    static void p33Sheet() {
        FerryForAlone x = new FerryForAlone();
        for (int s = 0; s < 4; s++) {
            due("sheet(" + s + ", 0, 1)", x.sheet(s, 0, 1), 1);
            due("it is there", x.cell(s, 0, 1), 1);
        }
        Sentences.each("sheet(s, 0, 1)", s -> x.sheet(s, 0, 1), -2, NO_SHEETS);
        Sentences.each("sheet(s, -1, 1)", s -> x.sheet(s, -1, 1), -2, NO_SHEETS);
    }

    @Holds("promise 33: sorts are 0 .. 2, and -1: missing; else BAD")
    static void p33Sort() {
        FerryForAlone x = new FerryForAlone();
        due("sheet(0, 0, 1)", x.sheet(0, 0, 1), 1);
        due("bytes", x.peopleBy(0, 0, 0, 0), 0);
        due("sheet(0, 1, 1)", x.sheet(0, 1, 1), 1);
        due("shorts", x.peopleBy(0, 1, 0, 0), 0);
        due("sheet(0, 2, 1)", x.sheet(0, 2, 1), 1);
        due("ints", x.peopleBy(0, 2, 0, 0), 0);
        due("sheet(0, 3, 1)", x.sheet(0, 3, 1), -2);
        due("sheet(0, -2, 1)", x.sheet(0, -2, 1), -2);
        Sentences.each("sheet(0, sort, 1)", sort -> x.sheet(0, sort, 1), -2, FAR_OFF);
        due("still ints", x.peopleBy(0, 2, 0, 0), 0);
        due("sheet(0, -1, 1)", x.sheet(0, -1, 1), 1);
        due("missing", x.peopleBy(0, 2, 0, 0), -11);
    }

    @Holds("promise 33: n 0 .. 40; above BAD, below -14")
    static void p33Size() {
        FerryForAlone x = new FerryForAlone();
        for (int sort = 0; sort < 3; sort++) {
            due("0 of sort " + sort, x.sheet(0, sort, 0), 1);
            due("no cell", x.cell(0, 0, 1), -12);
            due("40 of sort " + sort, x.sheet(0, sort, 40), 1);
            due("the last", x.cell(0, 39, 1), 1);
            due("41 of sort " + sort, x.sheet(0, sort, 41), -2);
            due("the most of sort " + sort, x.sheet(0, sort, Integer.MAX_VALUE), -2);
            due("-1 of sort " + sort, x.sheet(0, sort, -1), -14);
            due("the least of sort " + sort, x.sheet(0, sort, Integer.MIN_VALUE), -14);
            due("the last is still there", x.cell(0, 39, 1), 1);
        }
    }

    @Holds("promise 33: missing: n does not matter")
    static void p33Missing() {
        FerryForAlone x = new FerryForAlone();
        for (int n : new int[] {0, 1, 40, 41, -1, Integer.MIN_VALUE, Integer.MAX_VALUE}) {
            x.sheet(2, 0, 3);
            due("sheet(2, -1, " + n + ")", x.sheet(2, -1, n), 1);
            due("missing", x.cell(2, 0, 1), -11);
            due("once more", x.sheet(2, -1, n), 1);
        }
    }

    @Holds("promise 33: BAD ahead of -14")
    static void p33BadAhead() {
        FerryForAlone x = new FerryForAlone();
        due("no sheet", x.sheet(4, 0, -1), -2);
        due("no sort", x.sheet(0, 3, -1), -2);
        due("no sort", x.sheet(0, -2, -1), -2);
    }

    @Holds("promise 33: all 0, on each sheet, also where numbers stood")
    static void p33AllZero() {
        for (int s = 0; s < 4; s++) {
            FerryForAlone x = allOnes(s);
            due("judge, of ones", judgedByTwenties(x, s), 0);
            x.sheet(s, 2, 40);
            due("judge, of all 0", judgedByTwenties(x, s), -1);
        }
    }

    @Holds("promise 33: no other sheet becomes another one")
    static void p33NoOther() {
        for (int s = 0; s < 4; s++) {
            int other = (s + 1) % 4;
            FerryForAlone x = allOnes(s);
            x.sheet(other, 2, 40);
            due("judge of sheet " + s, judgedByTwenties(x, s), 0);
            FerryForAlone y = allOnes(other);
            y.sheet(s, 2, 40);
            due("judge of sheet " + other, judgedByTwenties(y, other), 0);
        }
    }

    /** Two who are not ALONE; a SHEET of 40 ones. */
    private static FerryForAlone allOnes(int s) {
        FerryForAlone x = Check.strand(0, 31, 0, 31);
        x.sheet(s, 2, 40);
        for (int i = 0; i < 40; i++) {
            x.cell(s, i, 1);
        }
        return x;
    }

    /** Nobody being FETCHED, a row of 0 alone is judged -1: the most that its two halves are judged. */
    private static int judgedByTwenties(FerryForAlone x, int s) {
        int scratch = (s + 2) % 4;
        int said = -1;
        for (int from = 0; from < 40; from += 20) {
            x.sheet(scratch, 2, 20);
            due("copy", x.copy(s, from, scratch, 0, 20), 20);
            said = Math.max(said, x.judge(scratch));
        }
        return said;
    }

    // ---- promise 34

    @Holds("promise 34: BAD: sheets are 0 .. 3")
    static void p34Sheet() {
        FerryForAlone x = new FerryForAlone();
        for (int s = 0; s < 4; s++) {
            x.sheet(s, 0, 1);
            due("cell(" + s + ", 0, 0)", x.cell(s, 0, 0), 1);
        }
        Sentences.each("cell(s, 0, 0)", s -> x.cell(s, 0, 0), -2, NO_SHEETS);
        Sentences.each("cell(s, 9, 0)", s -> x.cell(s, 9, 0), -2, NO_SHEETS);
    }

    @Holds("promise 34: -11, ahead of -12")
    static void p34Missing() {
        FerryForAlone x = sheets();
        for (int i : new int[] {0, -1, 40}) {
            due("cell(3, " + i + ", 0)", x.cell(3, i, 0), -11);
        }
    }

    @Holds("promise 34: numbers from 0 to the last, else -12")
    static void p34Number() {
        FerryForAlone x = sheets();
        due("cell(0, 0, 0)", x.cell(0, 0, 0), 1);
        due("cell(0, 3, 0)", x.cell(0, 3, 0), 1);
        due("cell(0, 4, 0)", x.cell(0, 4, 0), -12);
        due("cell(0, -1, 0)", x.cell(0, -1, 0), -12);
        Sentences.each("cell(0, i, 0)", i -> x.cell(0, i, 0), -12, FAR_OFF);
        x.sheet(0, 0, 0);
        due("of an empty one", x.cell(0, 0, 0), -12);
    }

    @Holds("promise 34: becomes v, and no other one does")
    static void p34Becomes() {
        FerryForAlone x = sheets();
        due("cell(1, 0, 50)", x.cell(1, 0, 50), 1);
        due("cell(1, 4, 59)", x.cell(1, 4, 59), 1);
        holds(x, 1, 0, 50, 6, 7, 8, 59);
        holds(x, 0, 0, 1, 2, 3, 4);
    }

    /** Whether one comes by a number of such a sort: it is 7 then, the KIND and MORE of one. */
    private static boolean isSeven(int sort, int v) {
        FerryForAlone x = new FerryForAlone();
        x.sheet(0, sort, 2);
        x.cell(0, 0, v);
        return x.peopleBy(0, sort, 0, 1) == 1 && x.told(0, 3) == 0 && x.told(0, 4) == 7;
    }

    @Holds("promise 34: of bytes the lowest 8 bits")
    static void p34Bytes() {
        for (int v : new int[] {7, 256 + 7, -256 + 7, 65536 + 7, 128 * 256 + 7, Integer.MIN_VALUE + 7}) {
            due("seven by " + v, isSeven(0, v) ? 1 : 0, 1);
        }
        due("not by 128 + 7", isSeven(0, 128 + 7) ? 1 : 0, 0);
    }

    @Holds("promise 34: of shorts the lowest 16 bits")
    static void p34Shorts() {
        for (int v : new int[] {7, 65536 + 7, -65536 + 7, Integer.MIN_VALUE + 7}) {
            due("seven by " + v, isSeven(1, v) ? 1 : 0, 1);
        }
        for (int v : new int[] {256 + 7, -256 + 7, 32768 + 7, 128 + 7}) {
            due("not by " + v, isSeven(1, v) ? 1 : 0, 0);
        }
    }

    @Holds("promise 34: of ints all bits")
    static void p34Ints() {
        due("seven by 7", isSeven(2, 7) ? 1 : 0, 1);
        for (int v : new int[] {256 + 7, -256 + 7, 65536 + 7, -65536 + 7, Integer.MIN_VALUE + 7}) {
            due("not by " + v, isSeven(2, v) ? 1 : 0, 0);
        }
    }

    @Holds("promise 34: what a sheet tells is told by the lowest bits alone")
    static void p34Told() {
        for (int sort = 0; sort < 3; sort++) {
            FerryForAlone x = Check.strand(0, 31);
            x.sheet(0, sort, 1);
            for (int v : new int[] {255, 128, 65535, 32768, 256, 65536, 65537, 257}) {
                x.cell(0, 0, v);
                boolean told = sort == 0 && (v == 65537 || v == 257) || sort == 1 && v == 65537;
                due("judge, by " + v + " of sort " + sort, x.judge(0), told ? -1 : 0);
            }
        }
    }

    // ---- promise 35

    @Holds("promise 35: BAD: both sheets are 0 .. 3, ahead of all others")
    static void p35Sheets() {
        FerryForAlone x = sheets();
        for (int no : NO_SHEETS) {
            due("copy from " + no, x.copy(no, 0, 0, 0, 1), -2);
            due("copy to " + no, x.copy(0, 0, no, 0, 1), -2);
            due("from, ahead of missing", x.copy(no, 0, 3, 0, 1), -2);
            due("to, ahead of missing", x.copy(3, 0, no, 0, 1), -2);
            due("ahead of outside", x.copy(0, 9, no, 9, -1), -2);
        }
    }

    @Holds("promise 35: -11: either is missing, ahead of -13 and -12")
    static void p35Missing() {
        FerryForAlone x = sheets();
        due("from", x.copy(3, 0, 0, 0, 1), -11);
        due("to", x.copy(0, 0, 3, 0, 1), -11);
        due("both", x.copy(3, 0, 3, 0, 0), -11);
        due("ahead of outside", x.copy(3, 9, 0, 9, -1), -11);
        due("ahead of outside", x.copy(0, 9, 3, 9, -1), -11);
    }

    @Holds("promise 35: -13: unlike sorts, ahead of -12")
    static void p35Unlike() {
        for (int sort = 0; sort < 3; sort++) {
            for (int other = 0; other < 3; other++) {
                FerryForAlone x = new FerryForAlone();
                x.sheet(0, sort, 2);
                x.sheet(1, other, 2);
                due(sort + " to " + other, x.copy(0, 0, 1, 0, 2), sort == other ? 2 : -13);
                due(sort + " to " + other + ", outside", x.copy(0, 9, 1, 9, -1), sort == other ? -12 : -13);
            }
        }
    }

    @Holds("promise 35: -12: n below 0")
    static void p35BelowZero() {
        FerryForAlone x = sheets();
        due("copy of 0", x.copy(0, 0, 1, 0, 0), 0);
        due("copy of -1", x.copy(0, 0, 1, 0, -1), -12);
        due("copy of -1 from the end", x.copy(0, 4, 1, 4, -1), -12);
        due("copy of the least", x.copy(0, 0, 1, 0, Integer.MIN_VALUE), -12);
    }

    @Holds("promise 35: -12: what comes is outside")
    static void p35From() {
        FerryForAlone x = sheets();
        due("all four", x.copy(0, 0, 1, 0, 4), 4);
        due("five of four", x.copy(0, 0, 1, 0, 5), -12);
        due("the last", x.copy(0, 3, 1, 0, 1), 1);
        due("one behind the last", x.copy(0, 4, 1, 0, 1), -12);
        due("two from the last on", x.copy(0, 3, 1, 0, 2), -12);
        due("one ahead of the first", x.copy(0, -1, 1, 0, 1), -12);
        due("from far off", x.copy(0, Integer.MAX_VALUE, 1, 0, 1), -12);
        due("from far off", x.copy(0, Integer.MIN_VALUE, 1, 0, 1), -12);
        due("so many that it wraps", x.copy(0, 1, 1, 0, Integer.MAX_VALUE), -12);
    }

    @Holds("promise 35: -12: where it comes to is outside")
    static void p35To() {
        FerryForAlone x = sheets();
        due("four of five", x.copy(0, 0, 1, 1, 4), 4);
        due("four of five, 1 too far on", x.copy(0, 0, 1, 2, 4), -12);
        due("five to four", x.copy(1, 0, 0, 0, 5), -12);
        due("to the last", x.copy(0, 0, 1, 4, 1), 1);
        due("to one behind the last", x.copy(0, 0, 1, 5, 1), -12);
        due("to one ahead of the first", x.copy(0, 0, 1, -1, 1), -12);
        due("to far off", x.copy(0, 0, 1, Integer.MAX_VALUE, 1), -12);
        due("to far off", x.copy(0, 0, 1, Integer.MIN_VALUE, 1), -12);
    }

    @Holds("promise 35: n 0: none comes, from and to the very end, too; further off is outside")
    static void p35None() {
        FerryForAlone x = sheets();
        due("from the end to the end", x.copy(0, 4, 1, 5, 0), 0);
        due("from behind the end", x.copy(0, 5, 1, 0, 0), -12);
        due("to behind the end", x.copy(0, 0, 1, 6, 0), -12);
        due("from ahead of the first", x.copy(0, -1, 1, 0, 0), -12);
        due("to ahead of the first", x.copy(0, 0, 1, -1, 0), -12);
        holds(x, 1, 0, 5, 6, 7, 8, 9);
    }

    @Holds("promise 35: n numbers, from i on, come to another one's place j, and no others")
    static void p35Comes() {
        FerryForAlone x = sheets();
        due("copy(0, 1, 1, 2, 2)", x.copy(0, 1, 1, 2, 2), 2);
        holds(x, 1, 0, 5, 6, 2, 3, 9);
        holds(x, 0, 0, 1, 2, 3, 4);
    }

    @Holds("promise 35: all 40 come")
    static void p35All() {
        FerryForAlone x = new FerryForAlone();
        x.sheet(0, 1, 40);
        x.sheet(1, 1, 40);
        x.cell(0, 0, 11);
        x.cell(0, 39, 12);
        due("copy of 40", x.copy(0, 0, 1, 0, 40), 40);
        due("copy of 41", x.copy(0, 0, 1, 0, 41), -12);
        x.sheet(2, 1, 2);
        x.copy(1, 0, 2, 0, 1);
        x.copy(1, 39, 2, 1, 1);
        holds(x, 2, 1, 11, 12);
    }

    @Holds("promise 35: its own place, on and back: as they were")
    static void p35AsTheyWere() {
        FerryForAlone x = sheets();
        due("1 on", x.copy(1, 0, 1, 1, 4), 4);
        holds(x, 1, 0, 5, 5, 6, 7, 8);
        FerryForAlone y = sheets();
        due("1 back", y.copy(1, 1, 1, 0, 4), 4);
        holds(y, 1, 0, 6, 7, 8, 9, 9);
        due("onto itself", y.copy(1, 0, 1, 0, 5), 5);
        holds(y, 1, 0, 6, 7, 8, 9, 9);
    }

    // ---- promise 36

    @Holds("promise 36: BAD: sheets are 0 .. 3, ahead of all others")
    static void p36Sheet() {
        FerryForAlone x = sheets();
        due("peopleBy(0, 0, 0, 1)", x.peopleBy(0, 0, 0, 1), 1);
        Sentences.each("peopleBy(s, 0, 0, 1)", s -> x.peopleBy(s, 0, 0, 1), -2, NO_SHEETS);
        Sentences.each("peopleBy(s, 0, -1, 1)", s -> x.peopleBy(s, 0, -1, 1), -2, NO_SHEETS);
    }

    @Holds("promise 36: BAD: sorts are 0 .. 2, also of a sheet that is missing")
    static void p36Sort() {
        FerryForAlone x = sheets();
        for (int s : new int[] {0, 3}) {
            due("sort -1", x.peopleBy(s, -1, 0, 1), -2);
            due("sort 3", x.peopleBy(s, 3, 0, 1), -2);
            Sentences.each("sort", sort -> x.peopleBy(s, sort, 0, 1), -2, FAR_OFF);
        }
        due("nobody came", x.count(0), 0);
    }

    @Holds("promise 36: BAD: n 0 .. 6, ahead of -11, -13, -12")
    static void p36HowMany() {
        FerryForAlone x = sheets();
        x.sheet(1, 0, 12);
        due("none", x.peopleBy(1, 0, 0, 0), 0);
        for (int n : new int[] {-1, 7, Integer.MIN_VALUE, Integer.MAX_VALUE}) {
            due("n " + n, x.peopleBy(1, 0, 0, n), -2);
            due("n " + n + ", missing", x.peopleBy(3, 0, 0, n), -2);
            due("n " + n + ", another sort", x.peopleBy(1, 2, 0, n), -2);
            due("n " + n + ", outside", x.peopleBy(1, 0, 99, n), -2);
        }
        due("nobody came", x.count(0), 0);
        due("six", x.peopleBy(1, 0, 0, 6), 6);
    }

    @Holds("promise 36: -11: missing, ahead of -13 and -12")
    static void p36Missing() {
        FerryForAlone x = sheets();
        for (int sort = 0; sort < 3; sort++) {
            due("peopleBy(3, " + sort + ", 0, 1)", x.peopleBy(3, sort, 0, 1), -11);
            due("ahead of outside", x.peopleBy(3, sort, -1, 6), -11);
            due("of none", x.peopleBy(3, sort, 0, 0), -11);
        }
    }

    @Holds("promise 36: -13: of another sort, ahead of -12")
    static void p36Unlike() {
        FerryForAlone x = sheets();
        for (int sort = 0; sort < 3; sort++) {
            due("bytes as " + sort, x.peopleBy(0, sort, 0, 0), sort == 0 ? 0 : -13);
            due("shorts as " + sort, x.peopleBy(2, sort, 0, 0), sort == 1 ? 0 : -13);
        }
        due("ahead of outside", x.peopleBy(0, 1, -1, 6), -13);
        due("nobody came", x.count(0), 0);
    }

    @Holds("promise 36: two by two, from a place on, as of traveller()")
    static void p36TwoByTwo() {
        FerryForAlone x = new FerryForAlone();
        Check.tell(x, 0, 99, 59, 63, 0, 0, 99);
        due("peopleBy(0, 0, 1, 2)", x.peopleBy(0, 0, 1, 2), 2);
        int[] first = {63, 0, 0, 5, 9};
        int[] last = {0, 0, 0, 0, 0};
        for (int what = 0; what < 5; what++) {
            due("told(0, " + what + ")", x.told(0, what), first[what]);
            due("told(1, " + what + ")", x.told(1, what), last[what]);
        }
        due("people", x.count(0), 2);
    }

    @Holds("promise 36: how many came; others are left out: no kind, no place")
    static void p36LeftOut() {
        FerryForAlone x = new FerryForAlone();
        Check.tell(x, 0, 60, 0, 59, 63, -1, 5, 0, 64, 0, -1, 10, 20);
        due("two of six", x.peopleBy(0, 0, 0, 6), 2);
        due("the first that came", x.told(0, 3), 5);
        due("the last that came", x.told(1, 3), 1);
        due("people", x.count(0), 2);
        due("none of one", x.peopleBy(0, 0, 0, 1), 0);
    }

    @Holds("promise 36: others are left out: who has no room")
    static void p36Full() {
        FerryForAlone x = Check.strand(0, 1, 0, 2, 0, 3, 0, 4, 0, 5);
        Check.tell(x, 0, 11, 12, 13, 14);
        due("one of two", x.peopleBy(0, 0, 0, 2), 1);
        due("the first of them", x.told(5, 4), 1);
        due("none of two", x.peopleBy(0, 0, 0, 2), 0);
        due("people", x.count(0), 6);
    }

    @Holds("promise 36: -12, also when nobody has room any more")
    static void p36FullAndOutside() {
        FerryForAlone x = six();
        Check.tell(x, 0, 11, 12);
        due("none of one", x.peopleBy(0, 0, 0, 1), 0);
        due("outside", x.peopleBy(0, 0, 0, 2), -12);
    }

    @Holds("promise 36: -12: what stood ahead came")
    static void p36StoodAhead() {
        FerryForAlone x = new FerryForAlone();
        Check.tell(x, 0, 11, 12, 60, 0, 13, 14);
        due("four of three", x.peopleBy(0, 0, 0, 4), -12);
        due("people", x.count(0), 2);
        due("the first", x.told(0, 0), 12);
        due("the other", x.told(1, 0), 14);
    }

    @Holds("promise 36: -12: a pair of which one number is outside does not come")
    static void p36HalfAPair() {
        FerryForAlone x = new FerryForAlone();
        Check.tell(x, 0, 11, 12, 13);
        due("two of one and a half", x.peopleBy(0, 0, 0, 2), -12);
        due("one came", x.count(0), 1);
        due("from the last", x.peopleBy(0, 0, 2, 1), -12);
        due("from ahead of the first", x.peopleBy(0, 0, -1, 1), -12);
        due("from behind the last", x.peopleBy(0, 0, 3, 1), -12);
        due("none came", x.count(0), 1);
        due("from the last but one", x.peopleBy(0, 0, 1, 1), 1);
        due("its kind", x.told(1, 4), 2);
    }

    @Holds("promise 36: -12: from ahead of the first, whatever stands behind")
    static void p36Ahead() {
        FerryForAlone x = sheets();
        due("from -2", x.peopleBy(0, 0, -2, 2), -12);
        Sentences.each("from", from -> x.peopleBy(0, 0, from, 6), -12, FAR_OFF);
        due("from the last int but one", x.peopleBy(0, 0, Integer.MAX_VALUE - 1, 6), -12);
        due("nobody came", x.count(0), 0);
    }

    @Holds("promise 36: of none nobody comes, wherever from")
    static void p36None() {
        FerryForAlone x = sheets();
        Sentences.each("from", from -> x.peopleBy(0, 0, from, 0), 0, -1, 0, 4, 5, 40);
    }

    @Holds("promise 36: to the very end of 40, and of an empty sheet")
    static void p36End() {
        FerryForAlone x = new FerryForAlone();
        x.sheet(0, 2, 40);
        due("the last pair", x.peopleBy(0, 2, 38, 1), 1);
        due("the last pair and one", x.peopleBy(0, 2, 38, 2), -12);
        due("it came", x.count(0), 2);
        due("behind it", x.peopleBy(0, 2, 40, 1), -12);
        x.sheet(0, 2, 0);
        due("of an empty one", x.peopleBy(0, 2, 0, 1), -12);
        due("none of an empty one", x.peopleBy(0, 2, 0, 0), 0);
    }

    // ---- promise 37

    @Holds("promise 37: BAD: kind 0 .. 6, ahead of all others")
    static void p37Kind() {
        FerryForAlone x = six();
        due("taken(0, 0)", x.taken(0, 0), 0);
        due("taken(6, 6)", x.taken(6, 6), 0);
        due("taken(0, -1)", x.taken(0, -1), -2);
        due("taken(0, 7)", x.taken(0, 7), -2);
        Sentences.each("taken(0, kind)", kind -> x.taken(0, kind), -2, FAR_OFF);
        due("ahead of outside", x.taken(12, 7), -2);
        due("ahead of none such", new FerryForAlone().taken(0, 7), -2);
    }

    @Holds("promise 37: -12: places 0 .. 11, ahead of -11 and -13")
    static void p37Place() {
        FerryForAlone x = six();
        due("taken(11, 6)", x.taken(11, 6), 0);
        for (int kind : new int[] {0, 6}) {
            due("taken(-1, " + kind + ")", x.taken(-1, kind), -12);
            due("taken(12, " + kind + ")", x.taken(12, kind), -12);
            Sentences.each("taken(i, " + kind + ")", i -> x.taken(i, kind), -12, FAR_OFF);
            due("nobody there", new FerryForAlone().taken(12, kind), -12);
        }
    }

    @Holds("promise 37: -11: none such, ahead of -13")
    static void p37NoneSuch() {
        FerryForAlone x = Check.strand(0, 1, 0, 2);
        due("taken(1, 0)", x.taken(1, 0), 1);
        due("taken(2, 0)", x.taken(2, 0), -11);
        due("taken(2, 6)", x.taken(2, 6), -11);
        due("taken(5, 0)", x.taken(5, 0), -11);
        due("taken(6, 6)", x.taken(6, 6), 0);
        due("taken(7, 6)", x.taken(7, 6), 0);
        due("taken(8, 6)", x.taken(8, 6), -11);
        due("taken(8, 0)", x.taken(8, 0), -11);
        due("taken(11, 6)", x.taken(11, 6), -11);
        due("nobody there", new FerryForAlone().taken(0, 0), -11);
        due("nobody there", new FerryForAlone().taken(6, 6), -11);
    }

    @Holds("promise 37: 0 .. 5 people, taken for one of that kind: the number")
    static void p37People() {
        FerryForAlone x = six();
        for (int p = 0; p < 6; p++) {
            due("taken(" + p + ", 0)", x.taken(p, 0), p);
        }
        x.put(5, 0, -1);
        due("who is over, too", x.taken(5, 0), 5);
        x.hour();
        due("who is in the boat, too", x.taken(0, 0), 0);
    }

    @Holds("promise 37: also of one that is one; -13: not of one that isn't")
    static void p37KindsOfKinds() {
        FerryForAlone x = Check.strand(0, 0, 10, 0, 20, 0, 30, 0, 40, 0, 50, 0);
        String[] are = {"0", "01", "02", "013", "024", "05"};
        for (int p = 0; p < 6; p++) {
            for (int kind = 0; kind < 6; kind++) {
                boolean isOne = are[p].indexOf('0' + kind) >= 0;
                due("taken(" + p + ", " + kind + ")", x.taken(p, kind), isOne ? p : -13);
            }
        }
    }

    @Holds("promise 37: 6 .. 11 how long they have waited, taken for 6: 0 .. 99")
    static void p37Waited() {
        FerryForAlone x = six();
        for (int p = 0; p < 6; p++) {
            x.put(p, 2, 94 + p);
            due("taken(" + (6 + p) + ", 6)", x.taken(6 + p, 6), 94 + p);
        }
        x.put(0, 2, 0);
        due("0", x.taken(6, 6), 0);
    }

    @Holds("promise 37: -13: people taken for waited, waited taken for people")
    static void p37Unlike() {
        FerryForAlone x = six();
        for (int p = 0; p < 6; p++) {
            due("taken(" + p + ", 6)", x.taken(p, 6), -13);
            for (int kind = 0; kind < 6; kind++) {
                due("taken(" + (6 + p) + ", " + kind + ")", x.taken(6 + p, kind), -13);
            }
        }
    }
}
