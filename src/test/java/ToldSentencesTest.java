/** Promises 22 to 28, sentence by sentence, at their bounds. */
public final class ToldSentencesTest {
    private static final int[] FAR_OFF = {Integer.MIN_VALUE, -1000, 1000, Integer.MAX_VALUE};
    private static final int[] NO_SHEETS = {-1, 4, Integer.MIN_VALUE, Integer.MAX_VALUE};

    private ToldSentencesTest() {
    }

    public static void main(String[] args) throws ReflectiveOperationException {
        Sentences.run(ToldSentencesTest.class, 22, 23, 24, 25, 26, 27, 28);
    }

    private static void due(String call, long got, long want) {
        Sentences.due(call, got, want);
    }

    private static FerryForAlone six() {
        return Check.strand(0, 1, 0, 11, 0, 21, 0, 31, 0, 41, 0, 51);
    }

    /** Six people, SHEET 0 of as many numbers as may be told, 1 of one more, 2 of none, 3 missing. */
    private static FerryForAlone sheets() {
        FerryForAlone x = six();
        x.film(0, 24);
        x.sheet(1, 0, 25);
        x.sheet(2, 0, 0);
        return x;
    }

    /** One of 0, who is IN THE BOAT; one of 1, who is OVER; one of 2, who is HIDDEN, AT 20. */
    private static FerryForAlone three() {
        FerryForAlone x = Check.strand(0, 0, 0, 10, 0, 20);
        x.put(1, 0, -1);
        x.put(2, 1, 1);
        x.hour();
        Check.tell(x, 0, 0);
        Check.tell(x, 1);
        return x;
    }

    // ---- promise 22

    @Holds("promise 22: BAD: sheets are 0 .. 3")
    static void p22Sheet() {
        FerryForAlone x = new FerryForAlone();
        for (int s = 0; s < 4; s++) {
            x.sheet(s, 0, 0);
            due("judge(" + s + ")", x.judge(s), -1);
        }
        Sentences.each("judge", x::judge, -2, NO_SHEETS);
    }

    @Holds("promise 22: -11: missing, at first and again")
    static void p22Missing() {
        FerryForAlone x = new FerryForAlone();
        due("at first", x.judge(3), -11);
        x.sheet(3, 0, 2);
        x.sheet(3, -1, 0);
        due("again", x.judge(3), -11);
    }

    @Holds("promise 22: 24 at most; BAD: it tells more than 24, of each sort")
    static void p22HowMany() {
        for (int sort = 0; sort < 3; sort++) {
            FerryForAlone x = new FerryForAlone();
            x.sheet(0, sort, 24);
            x.sheet(1, sort, 25);
            x.sheet(2, sort, 40);
            due("24", x.judge(0), -1);
            due("25", x.judge(1), -2);
            due("40", x.judge(2), -2);
        }
    }

    @Holds("promise 22: it tells of no hour: -1")
    static void p22Empty() {
        due("nobody there", judged(new FerryForAlone()), -1);
        due("six", judged(six()), -1);
        due("one told", judged(six(), 1), -1);
    }

    private static int judged(FerryForAlone x, int... cells) {
        Check.tell(x, 0, cells);
        return x.judge(0);
    }

    @Holds("promise 22: 1 more than the number, the first and the last; 0: nobody")
    static void p22Numbers() {
        due("of 0", judged(six(), 1), -1);
        FerryForAlone x = six();
        x.put(5, 2, 1);
        due("of 5", judged(x, 6), -1);
        due("of 5, not 5", judged(x, 5), 0);
        due("nobody", judged(Check.strand(0, 1, 0, 2), 0), -1);
        due("nobody, not 1", judged(Check.strand(0, 1, 0, 2), 1), 0);
        due("below 0", judged(six(), -1), 0);
        due("above 6", judged(six(), 7), 0);
    }

    @Holds("promise 22: the first number, from 0, that is otherwise: the first, the last, the first of two; -1: none")
    static void p22FirstOtherwise() {
        FerryForAlone x = sheets();
        due("none", x.judge(0), -1);
        for (int i = 23; i >= 0; i--) {
            x.cell(0, i, 9);
            due("number " + i, x.judge(0), i);
        }
    }

    @Holds("promise 22: from now, and as things are then")
    static void p22FromNow() {
        FerryForAlone x = Check.strand(0, 31);
        due("1st", judged(x, 1, 0), -1);
        x.hour();
        due("one hour later", x.judge(0), 0);
        due("one hour later", judged(x, 0, 0), -1);
    }

    @Holds("promise 22: hours pass 9999 in thought")
    static void p22PastTheLastHour() {
        FerryForAlone x = six();
        x.bay(0, 9999);
        x.film(0, 24);
        due("judge(0)", x.judge(0), -1);
        due("judged", judged(x, 1, 0, 0, 0, 2), 4);
    }

    // ---- promise 23

    /** The refusals of judge(), likewise: each is asked of a call with numbers that are good, and that are not. */
    private static void likewise(String call, Asked asked) {
        FerryForAlone x = sheets();
        for (int s : NO_SHEETS) {
            due(call + " of sheet " + s, asked.of(x, s), -2);
        }
        due(call + " of a missing sheet", asked.of(x, 3), -11);
        due(call + " of a sheet of 25", asked.of(x, 1), -2);
    }

    private interface Asked {
        long of(FerryForAlone x, int s);
    }

    @Holds("promise 23: BAD, -11, BAD likewise, ahead of -5 and -7")
    static void p23Likewise() {
        likewise("kinds", (x, s) -> x.kinds(s, 0, 0));
        likewise("kinds, none such", (x, s) -> x.kinds(s, 6, 0));
        likewise("kinds, no sort", (x, s) -> x.kinds(s, 0, 2));
        due("24 are not refused", sheets().kinds(0, 0, 1), 1023);
    }

    @Holds("promise 23: none such -5, ahead of -7")
    static void p23NoneSuch() {
        FerryForAlone x = sheets();
        due("kinds(2, 5, 0)", x.kinds(2, 5, 0), 63);
        due("kinds(2, 6, 0)", x.kinds(2, 6, 0), -5);
        due("kinds(2, -1, 0)", x.kinds(2, -1, 0), -5);
        Sentences.each("kinds(2, p, 0)", p -> x.kinds(2, p, 0), -5, FAR_OFF);
        due("ahead of sort", x.kinds(2, 6, 2), -5);
    }

    @Holds("promise 23: sort 0, 1, else -7")
    static void p23Sort() {
        FerryForAlone x = sheets();
        due("kinds(2, 0, 1)", x.kinds(2, 0, 1), 1023);
        due("kinds(2, 0, -1)", x.kinds(2, 0, -1), -7);
        due("kinds(2, 0, 2)", x.kinds(2, 0, 2), -7);
        Sentences.each("kinds(2, 0, sort)", sort -> x.kinds(2, 0, sort), -7, FAR_OFF);
    }

    @Holds("promise 23: kinds, bits 0 .. 5: all, none, the last alone, the first alone")
    static void p23Kinds() {
        FerryForAlone x = Check.under("gaps 9;likes 0;walks 0;", 0, 30, 0, 30);
        Check.tell(x, 0);
        due("all", x.kinds(0, 0, 0), 63);
        Check.tell(x, 0, 7);
        due("none", x.kinds(0, 0, 0), 0);
        Check.tell(x, 0, 1);
        due("a lamp alone", x.kinds(0, 0, 0), 32);
        Check.tell(x, 0, 0);
        due("all but a lamp", x.kinds(0, 0, 0), 31);
        FerryForAlone y = Check.under("gaps 0;likes 5;walks 0;", 1, 30, 4, 31);
        y.bay(0, 1);
        Check.tell(y, 0, 1);
        due("liked 5, 4, 5, 4, -5, 10", y.kinds(0, 0, 0), 1 + 4 + 32);
        due("the kind stays", y.told(0, 3), 0);
    }

    @Holds("promise 23: more, bits 0 .. 9: all, none, the last alone, the first alone")
    static void p23More() {
        FerryForAlone x = Check.strand(0, 31, 51, 31);
        x.put(0, 0, 10);
        x.put(0, 2, 85);
        Check.tell(x, 0);
        due("all", x.kinds(0, 1, 1), 1023);
        Check.tell(x, 0, 7);
        due("none", x.kinds(0, 1, 1), 0);
        Check.tell(x, 0, 2);
        due("a lamp liked 90 alone", x.kinds(0, 1, 1), 512);
        x.put(0, 2, 0);
        Check.tell(x, 0, 1);
        due("a lamp liked 0 alone", x.kinds(0, 1, 1), 1);
        due("more stays", x.told(1, 4), 1);
    }

    @Holds("promise 23: of one who is at none, too")
    static void p23AtNone() {
        FerryForAlone x = three();
        due("in the boat", x.kinds(0, 0, 0), 63);
        due("over", x.kinds(0, 1, 1), 1023);
    }

    // ---- promise 24

    @Holds("promise 24: NO: all that judge() refuses")
    static void p24Refused() {
        FerryForAlone x = sheets();
        for (int s : NO_SHEETS) {
            due("places(" + s + ", 0)", x.places(s, 0), FerryForAlone.NO);
        }
        due("missing", x.places(3, 0), FerryForAlone.NO);
        due("25", x.places(1, 0), FerryForAlone.NO);
        due("24 are not refused", x.places(0, 0) & 1L << 1, 2);
    }

    @Holds("promise 24: NO: none such")
    static void p24NoneSuch() {
        FerryForAlone x = sheets();
        due("places(2, 5)", x.places(2, 5), -1);
        due("places(2, 6)", x.places(2, 6), FerryForAlone.NO);
        due("places(2, -1)", x.places(2, -1), FerryForAlone.NO);
        Sentences.each("places(2, p)", p -> x.places(2, p), FerryForAlone.NO, FAR_OFF);
    }

    @Holds("promise 24: NO: one is at none, in the boat or over")
    static void p24AtNone() {
        FerryForAlone x = three();
        due("in the boat", x.places(1, 0), FerryForAlone.NO);
        due("over", x.places(1, 1), FerryForAlone.NO);
        due("hidden", x.places(1, 2), -1);
    }

    private static long placesBy(String alone, int... cells) {
        FerryForAlone x = Check.under("gaps 99*(1-(" + alone + "));likes 0;walks 0;", 0, 9, 0, 9);
        Check.tell(x, 0, cells);
        long places = x.places(0, 0);
        due("one stays", x.told(0, 0), 9);
        return places;
    }

    @Holds("promise 24: bit c for place c, 0 .. 63: each alone, all, none")
    static void p24Bits() {
        for (int c = 0; c < 64; c++) {
            if (c != 9) {
                due("place " + c + " alone", placesBy("place=" + c, 1), 1L << c);
                due("all but place " + c, placesBy("place=" + c, 0), ~(1L << c));
            }
        }
        due("all", placesBy("0"), -1);
        due("none", placesBy("0", 7), 0);
    }

    @Holds("promise 24: at no place is none of them")
    static void p24NoPlace() {
        FerryForAlone x = Check.strand(0, 9);
        Check.tell(x, 0, 0);
        due("one is fetched from each place", x.places(0, 0), 0);
        Check.tell(x, 0, 1);
        due("one is fetched from each place", x.places(0, 0), -1);
    }

    // ---- promise 25

    @Holds("promise 25: BAD, -11, BAD likewise")
    static void p25Likewise() {
        likewise("turned", FerryForAlone::turned);
    }

    @Holds("promise 25: people, as bits: nobody there, all six, none")
    static void p25Bits() {
        FerryForAlone x = new FerryForAlone();
        Check.tell(x, 0);
        due("nobody there", x.turned(0), 0);
        due("all six", sheets().turned(2), 63);
        Check.tell(x, 0, 7);
        due("none", x.turned(0), 0);
        FerryForAlone y = sheets();
        Check.tell(y, 0, 2);
        due("but by the first", y.turned(0), 1);
        Check.tell(y, 0, 1);
        due("by all but the first", y.turned(0), 62);
    }

    @Holds("promise 25: just that one hidden, if one isn't, or not, if one is")
    static void p25Turned() {
        FerryForAlone x = Check.strand(0, 30, 0, 31, 0, 50);
        x.put(2, 1, 1);
        Check.tell(x, 0, 0);
        due("as it is nobody is fetched, nor by any but 3", x.turned(0), 0);
        Check.tell(x, 0, 3);
        due("who is hidden", x.turned(0), 4);
        Check.tell(x, 0, 2);
        due("who isn't", x.turned(0), 1);
        Check.tell(x, 0, 1);
        due("who isn't", x.turned(0), 2);
        due("seen as they were", x.ferry(4), 3);
    }

    @Holds("promise 25: of one who is at none it makes no difference")
    static void p25AtNone() {
        due("as it is", three().turned(0), 7);
        FerryForAlone x = Check.strand(0, 31, 0, 9);
        x.put(1, 0, -1);
        Check.tell(x, 0, 1);
        due("who is over", x.turned(0), 2);
    }

    // ---- promise 26

    @Holds("promise 26: BAD, -11, BAD likewise, ahead of -5 and -7")
    static void p26Likewise() {
        likewise("waits", (x, s) -> x.waits(s, 0, 0));
        likewise("waits, none such", (x, s) -> x.waits(s, 6, 0));
        likewise("waits, no what", (x, s) -> x.waits(s, 0, 2));
        due("24 are not refused", sheets().waits(0, 0, 0), 100);
    }

    @Holds("promise 26: none such -5, ahead of -7")
    static void p26NoneSuch() {
        FerryForAlone x = sheets();
        due("waits(2, 5, 0)", x.waits(2, 5, 0), 100);
        due("waits(2, 6, 0)", x.waits(2, 6, 0), -5);
        due("waits(2, -1, 0)", x.waits(2, -1, 0), -5);
        Sentences.each("waits(2, p, 0)", p -> x.waits(2, p, 0), -5, FAR_OFF);
        due("ahead of what", x.waits(2, 6, 2), -5);
    }

    @Holds("promise 26: what 0, 1, else -7, ahead of a -1 that is an answer")
    static void p26What() {
        FerryForAlone x = sheets();
        Check.tell(x, 2, 7);
        due("waits(2, 0, 0)", x.waits(2, 0, 0), 0);
        due("waits(2, 0, 1)", x.waits(2, 0, 1), -1);
        due("waits(2, 0, -1)", x.waits(2, 0, -1), -7);
        due("waits(2, 0, 2)", x.waits(2, 0, 2), -7);
        Sentences.each("waits(2, 0, what)", what -> x.waits(2, 0, what), -7, FAR_OFF);
    }

    private static void dueWaits(FerryForAlone x, int p, int howMany, int least) {
        due("how many", x.waits(0, p, 0), howMany);
        due("the least", x.waits(0, p, 1), least);
    }

    @Holds("promise 26: 0 .. 99: all, none (-1), 0 alone, 99 alone")
    static void p26Waited() {
        FerryForAlone x = Check.strand(0, 31, 0, 10);
        Check.tell(x, 0);
        dueWaits(x, 0, 100, 0);
        Check.tell(x, 0, 7);
        dueWaits(x, 0, 0, -1);
        x.put(1, 2, 1);
        Check.tell(x, 0, 2);
        dueWaits(x, 0, 1, 0);
        x.put(1, 2, 99);
        Check.tell(x, 0, 1);
        dueWaits(x, 0, 1, 99);
        x.put(0, 2, 98);
        Check.tell(x, 0, 2);
        dueWaits(x, 1, 1, 99);
        due("waited stays", x.told(1, 2), 99);
    }

    @Holds("promise 26: how many, and the least, of those between")
    static void p26Between() {
        FerryForAlone x = Check.under("gaps 99*(waited<40 or 60<waited);likes 0;walks 0;", 0, 30, 0, 30);
        Check.tell(x, 0, 1);
        dueWaits(x, 0, 21, 40);
        Check.tell(x, 0, 0);
        dueWaits(x, 0, 79, 0);
    }

    // ---- promise 27

    @Holds("promise 27: BAD, -11, BAD likewise")
    static void p27Likewise() {
        likewise("laws", FerryForAlone::laws);
    }

    @Holds("promise 27: texts, as bits: the one that there is, all six, none, the last alone")
    static void p27Bits() {
        FerryForAlone x = Check.strand(0, 30, 0, 31);
        Check.tell(x, 0);
        due("one", x.laws(0), 1);
        for (int t = 1; t < 5; t++) {
            Check.read(x, "gaps 9;likes 0;walks 0;");
            due("so many", x.laws(0), (1 << t + 1) - 1);
        }
        Check.read(x, "gaps 0;likes 0;walks 0;");
        due("all six", x.laws(0), 63);
        Check.tell(x, 0, 1);
        due("the last alone", x.laws(0), 32);
        Check.tell(x, 0, 0);
        due("all but the last", x.laws(0), 31);
        Check.tell(x, 0, 7);
        due("none", x.laws(0), 0);
    }

    @Holds("promise 27: whatever the law is, and it stays")
    static void p27TheLawStays() {
        FerryForAlone x = Check.under("gaps 0;likes 0;walks 0;", 0, 30, 0, 31);
        Check.tell(x, 0, 0);
        due("by text 0", x.laws(0), 1);
        due("the law", x.count(4), 1);
    }

    // ---- promise 28

    @Holds("promise 28: BAD: sheets are 0 .. 3, ahead of -7")
    static void p28Sheet() {
        FerryForAlone x = six();
        for (int s = 0; s < 4; s++) {
            due("film(" + s + ", 1)", x.film(s, 1), 1);
        }
        for (int s : NO_SHEETS) {
            due("film(" + s + ", 1)", x.film(s, 1), -2);
            due("film(" + s + ", 25)", x.film(s, 25), -2);
        }
    }

    @Holds("promise 28: n 0 .. 24, else -7")
    static void p28HowMany() {
        FerryForAlone x = six();
        due("film(0, 0)", x.film(0, 0), 0);
        due("film(0, 1)", x.film(0, 1), 1);
        due("film(0, 24)", x.film(0, 24), 24);
        due("film(0, 25)", x.film(0, 25), -7);
        due("film(0, -1)", x.film(0, -1), -7);
        Sentences.each("film(0, n)", n -> x.film(0, n), -7, FAR_OFF);
        due("24 are left", x.copy(0, 0, 0, 0, 24), 24);
        due("as they were", x.judge(0), -1);
    }

    @Holds("promise 28: who is fetched in the 1st, .., nth hour; 1 more than each; 0: nobody")
    static void p28Who() {
        FerryForAlone x = Check.strand(0, 31, 0, 0, 0, 20);
        x.film(0, 24);
        Check.tell(x, 1, 1, 0, 2, 0, 0, 0, 0, 3, 0, 0, 0, 0, 0, 0, 0, 0, 0, 0, 0, 0, 0, 0, 0, 0);
        due("what is told", x.judge(1), -1);
        due("the film", x.judge(0), -1);
        x.cell(0, 7, 0);
        due("the film, changed", x.judge(0), 7);
        FerryForAlone y = six();
        y.put(5, 2, 1);
        y.film(0, 1);
        y.sheet(1, 0, 2);
        y.copy(0, 0, 1, 1, 1);
        y.put(0, 0, 63);
        y.put(5, 2, 0);
        y.put(0, 2, 9);
        due("it keeps what it is by then", y.judge(0), 0);
    }

    @Holds("promise 28: of n numbers, bytes, whatever it was")
    static void p28Becomes() {
        for (int sort = -1; sort < 3; sort++) {
            FerryForAlone x = six();
            x.sheet(0, sort, 40);
            x.film(0, 3);
            due("the last", x.cell(0, 2, 0), 1);
            due("behind it", x.cell(0, 3, 0), -12);
            due("bytes", x.peopleBy(0, 0, 0, 0), 0);
            due("no shorts", x.peopleBy(0, 1, 0, 0), -13);
            due("no ints", x.peopleBy(0, 2, 0, 0), -13);
        }
        FerryForAlone x = six();
        x.sheet(0, 2, 1);
        x.film(0, 0);
        due("none of them", x.cell(0, 0, 0), -12);
        due("not missing", x.judge(0), -1);
    }

    @Holds("promise 28: the sheet truly, the hours in thought")
    static void p28Hours() {
        FerryForAlone x = six();
        x.bay(0, 9999);
        due("film(0, 24)", x.film(0, 24), 24);
        due("hour", x.count(1), 9999);
        due("who are seen", x.ferry(4), 63);
        due("fetched", x.count(2), 0);
    }
}
