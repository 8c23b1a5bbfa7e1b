import java.util.function.Supplier;
import java.util.function.ToLongFunction;

/**
 * What is refused, and what is asked, changes nothing: behind each such call an object answers as its twin does that
 * was not asked. The answers of the refusals stand here with it.
 */
public final class NothingChangesTest {
    private static final long NO = FerryForAlone.NO;

    private NothingChangesTest() {
    }

    public static void main(String[] args) throws ReflectiveOperationException {
        Sentences.run(NothingChangesTest.class, 2, 3, 4, 5, 6, 7, 8, 9, 10, 11, 12, 13, 14, 15, 16, 17, 18, 19, 20,
                21, 22, 23, 24, 25, 26, 27, 28, 29, 30, 31, 32, 33, 34, 35, 36, 37);
    }

    /** Something of all: OUT, one IN THE BOAT, one OVER, one HIDDEN; two TEXTS, a tape; three SHEETS; an IMAGE. */
    private static FerryForAlone scene() {
        FerryForAlone x = new FerryForAlone();
        x.image();
        int[] people = {3, 0, 14, 33, 22, 10, 36, 12, 43, 50};
        for (int i = 0; i < people.length; i += 2) {
            x.traveller(people[i], people[i + 1]);
        }
        x.put(0, 2, 40);
        x.put(1, 2, 7);
        x.put(2, 1, 1);
        x.put(4, 0, -1);
        x.bay(0, 21);
        x.force(Check.read(x, "gaps 4;likes waited-more;walks (hour<25)-1;"));
        x.hour();
        Check.feed(x, "gaps 6;likes 7;walks 8;");
        x.film(0, 6);
        x.sheet(1, 1, 5);
        x.sheet(2, 2, 30);
        for (int i = 0; i < 5; i++) {
            x.cell(1, i, 11 * i);
            x.cell(2, i, 7 * i);
        }
        return x;
    }

    /** The sixth one is there too. */
    private static FerryForAlone fullStrand() {
        FerryForAlone x = scene();
        x.traveller(58, 60);
        return x;
    }

    private static FerryForAlone lastHour() {
        FerryForAlone x = scene();
        x.bay(0, 9999);
        x.bay(1, 1);
        return x;
    }

    private static FerryForAlone withoutImage() {
        FerryForAlone x = Check.strand(0, 31, 0, 10);
        x.hour();
        x.film(0, 9);
        Check.feed(x, "gaps 6;likes 7;walks 8;");
        return x;
    }

    private static FerryForAlone fullTape() {
        FerryForAlone x = scene();
        for (int i = x.count(5); i < 159; i += 4) {
            x.feed(4, ' ', ' ', ' ', ' ', 0);
        }
        return x;
    }

    private static FerryForAlone fullOfTexts() {
        FerryForAlone x = new FerryForAlone();
        for (int t = 1; t < 6; t++) {
            Check.read(x, "gaps " + t + ";likes 1;walks 1;");
        }
        x.traveller(0, 9);
        x.force(3);
        Check.feed(x, "gaps 9;!");
        return x;
    }

    private static void refused(String name, ToLongFunction<FerryForAlone> call, long want) {
        refused(NothingChangesTest::scene, name, call, want);
    }

    private static void refused(Supplier<FerryForAlone> scene, String name, ToLongFunction<FerryForAlone> call,
            long want) {
        Sentences.changesNothing(scene, name, call, want);
    }

    private static void asked(String name, ToLongFunction<FerryForAlone> call) {
        Sentences.changesNothing(NothingChangesTest::scene, name, call);
        Sentences.changesNothing(NothingChangesTest::withoutImage, name, call);
        Sentences.changesNothing(NothingChangesTest::lastHour, name, call);
    }

    @Holds("promise 2: count() changes nothing")
    static void p02Asked() {
        for (int what = -1; what < 7; what++) {
            int w = what;
            asked("count(" + what + ")", x -> x.count(w));
        }
    }

    @Holds("promise 3: what bay() refuses changes nothing")
    static void p03Refused() {
        refused("bay(0, 10000)", x -> x.bay(0, 10000), -2);
        refused("bay(0, -1)", x -> x.bay(0, -1), -2);
        refused("bay(1, 100)", x -> x.bay(1, 100), -2);
        refused("bay(1, -1)", x -> x.bay(1, -1), -2);
        refused("bay(2, 5)", x -> x.bay(2, 5), -2);
        refused("bay(-1, 5)", x -> x.bay(-1, 5), -2);
    }

    @Holds("promise 4: ferry() changes nothing")
    static void p04Asked() {
        for (int what = -1; what < 7; what++) {
            int w = what;
            asked("ferry(" + what + ")", x -> x.ferry(w));
        }
    }

    @Holds("promise 5: what feed() refuses changes nothing")
    static void p05Refused() {
        refused("feed(0, ..)", x -> x.feed(0, 1, 1, 1, 1, 1), -2);
        refused("feed(6, ..)", x -> x.feed(6, 1, 1, 1, 1, 1), -2);
        refused("feed(5, .., 256)", x -> x.feed(5, 1, 1, 1, 1, 256), -2);
        refused("feed(1, .., -1)", x -> x.feed(1, 1, 1, 1, 1, -1), -2);
        refused(NothingChangesTest::fullTape, "feed(3, ..)", x -> x.feed(3, 1, 1, 1, 1, 1), -4);
    }

    @Holds("promise 6: FULL changes nothing, the tape stays")
    static void p06Full() {
        refused(NothingChangesTest::fullOfTexts, "text()", FerryForAlone::text, -4);
    }

    @Holds("promise 7: what force() refuses changes nothing")
    static void p07Refused() {
        refused("force(2)", x -> x.force(2), -2);
        refused("force(-1)", x -> x.force(-1), -2);
    }

    @Holds("promise 8: asks() changes nothing")
    static void p08Asked() {
        asked("asks(0, 0)", x -> x.asks(0, 0));
        asked("asks(2, 1)", x -> x.asks(2, 1));
        refused("asks(3, 0)", x -> x.asks(3, 0), -1000);
        refused("asks(0, 5)", x -> x.asks(0, 5), -1000);
    }

    @Holds("promise 9: what traveller() refuses changes nothing")
    static void p09Refused() {
        refused("traveller(60, 0)", x -> x.traveller(60, 0), -2);
        refused("traveller(-1, 0)", x -> x.traveller(-1, 0), -2);
        refused("traveller(0, 64)", x -> x.traveller(0, 64), -2);
        refused("traveller(0, -1)", x -> x.traveller(0, -1), -2);
        refused(NothingChangesTest::fullStrand, "traveller(0, 9)", x -> x.traveller(0, 9), -4);
    }

    @Holds("promise 10: what put() refuses changes nothing")
    static void p10Refused() {
        refused("put(1, 0, 64)", x -> x.put(1, 0, 64), -7);
        refused("put(1, 0, -2)", x -> x.put(1, 0, -2), -7);
        refused("put(1, 1, 2)", x -> x.put(1, 1, 2), -7);
        refused("put(2, 1, -1)", x -> x.put(2, 1, -1), -7);
        refused("put(1, 2, 100)", x -> x.put(1, 2, 100), -7);
        refused("put(1, 2, -1)", x -> x.put(1, 2, -1), -7);
        refused("put(1, 3, 1)", x -> x.put(1, 3, 1), -7);
        refused("put(5, 0, 1)", x -> x.put(5, 0, 1), -5);
        refused("put(0, 0, 1), in the boat", x -> x.put(0, 0, 1), -7);
        refused("put(0, 0, -1), in the boat", x -> x.put(0, 0, -1), -7);
    }

    @Holds("promise 11: told() changes nothing")
    static void p11Asked() {
        for (int what = -1; what < 11; what++) {
            int w = what;
            asked("told(1, " + what + ")", x -> x.told(1, w));
        }
        refused("told(5, 0)", x -> x.told(5, 0), -5);
    }

    @Holds("promise 12: STATE changes nothing")
    static void p12Refused() {
        refused(NothingChangesTest::lastHour, "hour()", FerryForAlone::hour, -3);
    }

    @Holds("promise 13: what walk() refuses changes nothing")
    static void p13Refused() {
        refused("walk(1, 64)", x -> x.walk(1, 64), -7);
        refused("walk(1, -64)", x -> x.walk(1, -64), -7);
        refused("walk(5, 1)", x -> x.walk(5, 1), -5);
        refused("walk(0, 1), in the boat", x -> x.walk(0, 1), -3);
        refused("walk(4, 1), over", x -> x.walk(4, 1), -3);
    }

    @Holds("promise 14: run() is in thought: it changes nothing")
    static void p14Asked() {
        for (int what : new int[] {0, 1, 2, 11, 21}) {
            asked("run(60, " + what + ")", x -> x.run(60, what));
            asked("run(61, " + what + ")", x -> x.run(61, what));
        }
    }

    @Holds("promise 15: when() changes nothing")
    static void p15Asked() {
        for (int what = 0; what < 4; what++) {
            int w = what;
            asked("when(1, " + what + ")", x -> x.when(1, w));
        }
    }

    @Holds("promise 16: hide() changes nothing")
    static void p16Asked() {
        asked("hide(60, 0)", x -> x.hide(60, 0));
        asked("hide(9, 1)", x -> x.hide(9, 1));
        asked("hide(61, 0)", x -> x.hide(61, 0));
    }

    @Holds("promise 17: stand() changes nothing")
    static void p17Asked() {
        for (int p = 0; p < 5; p++) {
            int one = p;
            asked("stand(" + p + ", 0)", x -> x.stand(one, 0));
        }
        refused("stand(0, 0)", x -> x.stand(0, 0), -3);
        refused("stand(1, 2)", x -> x.stand(1, 2), -7);
    }

    @Holds("promise 18: apart() changes nothing")
    static void p18Asked() {
        for (int p = 0; p < 5; p++) {
            int one = p;
            asked("apart(" + p + ", 0)", x -> x.apart(one, 0));
        }
        refused("apart(1, 2)", x -> x.apart(1, 2), -7);
    }

    @Holds("promise 19: breakwater() changes nothing")
    static void p19Asked() {
        asked("breakwater(0)", x -> x.breakwater(0));
        asked("breakwater(1)", x -> x.breakwater(1));
        refused("breakwater(2)", x -> x.breakwater(2), -2);
    }

    @Holds("promise 20: gap() changes nothing")
    static void p20Asked() {
        asked("gap(0)", x -> x.gap(0));
        refused("gap(2)", x -> x.gap(2), -2);
    }

    @Holds("promise 21: middle() changes nothing")
    static void p21Asked() {
        asked("middle(0)", x -> x.middle(0));
        refused("middle(2)", x -> x.middle(2), NO);
    }

    @Holds("promise 22: judge() changes nothing")
    static void p22Asked() {
        for (int s = -1; s < 5; s++) {
            int sheet = s;
            asked("judge(" + s + ")", x -> x.judge(sheet));
        }
    }

    @Holds("promise 23: kinds() changes nothing")
    static void p23Asked() {
        for (int sort = 0; sort < 2; sort++) {
            int w = sort;
            asked("kinds(0, 1, " + sort + ")", x -> x.kinds(0, 1, w));
            refused("kinds(3, 1, " + sort + ")", x -> x.kinds(3, 1, w), -11);
        }
        refused("kinds(0, 1, 2)", x -> x.kinds(0, 1, 2), -7);
    }

    @Holds("promise 24: places() changes nothing")
    static void p24Asked() {
        asked("places(0, 1)", x -> x.places(0, 1));
        asked("places(0, 2)", x -> x.places(0, 2));
        refused("places(0, 0)", x -> x.places(0, 0), NO);
    }

    @Holds("promise 25: turned() changes nothing")
    static void p25Asked() {
        asked("turned(0)", x -> x.turned(0));
        refused("turned(3)", x -> x.turned(3), -11);
    }

    @Holds("promise 26: waits() changes nothing")
    static void p26Asked() {
        asked("waits(0, 1, 0)", x -> x.waits(0, 1, 0));
        asked("waits(0, 1, 1)", x -> x.waits(0, 1, 1));
        refused("waits(0, 1, 2)", x -> x.waits(0, 1, 2), -7);
    }

    @Holds("promise 27: laws() changes nothing")
    static void p27Asked() {
        asked("laws(0)", x -> x.laws(0));
        refused("laws(2)", x -> x.laws(2), -2);
    }

    @Holds("promise 28: what film() refuses changes nothing, and what it films is the sheet alone")
    static void p28Refused() {
        for (int s = 0; s < 4; s++) {
            int sheet = s;
            refused("film(" + s + ", 25)", x -> x.film(sheet, 25), -7);
            refused("film(" + s + ", -1)", x -> x.film(sheet, -1), -7);
        }
        refused("film(4, 1)", x -> x.film(4, 1), -2);
        asked("film() and the sheet missing again", x -> {
            x.film(3, 24);
            return x.sheet(3, -1, 0);
        });
    }

    @Holds("promise 29: drawn() is in thought: it changes nothing")
    static void p29Asked() {
        asked("drawn(7, 0)", x -> x.drawn(7, 0));
        asked("drawn(7, 1)", x -> x.drawn(7, 1));
        refused("drawn(100000, 0)", x -> x.drawn(100000, 0), -2);
    }

    @Holds("promise 30: odds() changes nothing")
    static void p30Asked() {
        asked("odds(5, 30, 3, 0)", x -> x.odds(5, 30, 3, 0));
        refused("odds(5, 41, 3, 0)", x -> x.odds(5, 41, 3, 0), NO);
    }

    @Holds("promise 31: image() changes nothing but the image")
    static void p31Image() {
        Sentences.changesNothing(() -> {
            FerryForAlone x = scene();
            x.image();
            return x;
        }, "image() once more", FerryForAlone::image, 5);
    }

    @Holds("promise 32: STATE changes nothing; back() at once changes nothing either")
    static void p32Back() {
        refused(NothingChangesTest::withoutImage, "back()", FerryForAlone::back, -3);
        Sentences.changesNothing(() -> {
            FerryForAlone x = scene();
            x.image();
            return x;
        }, "back() at once", FerryForAlone::back, 5);
    }

    @Holds("promise 33: what sheet() refuses changes nothing")
    static void p33Refused() {
        for (int s = 0; s < 4; s++) {
            int sheet = s;
            refused("sheet(" + s + ", 0, 41)", x -> x.sheet(sheet, 0, 41), -2);
            refused("sheet(" + s + ", 0, -1)", x -> x.sheet(sheet, 0, -1), -14);
            refused("sheet(" + s + ", 3, 1)", x -> x.sheet(sheet, 3, 1), -2);
            refused("sheet(" + s + ", -2, 1)", x -> x.sheet(sheet, -2, 1), -2);
        }
        refused("sheet(4, 0, 1)", x -> x.sheet(4, 0, 1), -2);
        refused("sheet(-1, 0, 1)", x -> x.sheet(-1, 0, 1), -2);
    }

    @Holds("promise 34: what cell() refuses changes nothing")
    static void p34Refused() {
        refused("cell(0, 6, 5)", x -> x.cell(0, 6, 5), -12);
        refused("cell(1, 5, 5)", x -> x.cell(1, 5, 5), -12);
        refused("cell(1, -1, 5)", x -> x.cell(1, -1, 5), -12);
        refused("cell(3, 0, 5)", x -> x.cell(3, 0, 5), -11);
        refused("cell(4, 0, 5)", x -> x.cell(4, 0, 5), -2);
    }

    @Holds("promise 35: what copy() refuses changes nothing; n 0 doesn't either")
    static void p35Refused() {
        refused("copy(1, 0, 1, 3, 3)", x -> x.copy(1, 0, 1, 3, 3), -12);
        refused("copy(1, 3, 1, 0, 3)", x -> x.copy(1, 3, 1, 0, 3), -12);
        refused("copy(1, 1, 1, 0, -1)", x -> x.copy(1, 1, 1, 0, -1), -12);
        refused("copy(1, -1, 1, 0, 2)", x -> x.copy(1, -1, 1, 0, 2), -12);
        refused("copy(1, 1, 1, -1, 2)", x -> x.copy(1, 1, 1, -1, 2), -12);
        refused("copy(1, 1, 2, 0, 2)", x -> x.copy(1, 1, 2, 0, 2), -13);
        refused("copy(1, 1, 3, 0, 2)", x -> x.copy(1, 1, 3, 0, 2), -11);
        refused("copy(1, 1, 4, 0, 2)", x -> x.copy(1, 1, 4, 0, 2), -2);
        refused("copy(1, 1, 1, 0, 0)", x -> x.copy(1, 1, 1, 0, 0), 0);
    }

    @Holds("promise 36: what peopleBy() refuses changes nothing, if nobody stood ahead")
    static void p36Refused() {
        refused("peopleBy(1, 1, 0, 7)", x -> x.peopleBy(1, 1, 0, 7), -2);
        refused("peopleBy(1, 1, 0, -1)", x -> x.peopleBy(1, 1, 0, -1), -2);
        refused("peopleBy(1, 3, 0, 1)", x -> x.peopleBy(1, 3, 0, 1), -2);
        refused("peopleBy(4, 1, 0, 1)", x -> x.peopleBy(4, 1, 0, 1), -2);
        refused("peopleBy(3, 1, 0, 1)", x -> x.peopleBy(3, 1, 0, 1), -11);
        refused("peopleBy(1, 2, 0, 1)", x -> x.peopleBy(1, 2, 0, 1), -13);
        refused("peopleBy(1, 1, 4, 1)", x -> x.peopleBy(1, 1, 4, 1), -12);
        refused("peopleBy(1, 1, -1, 2)", x -> x.peopleBy(1, 1, -1, 2), -12);
        refused("peopleBy(1, 1, 0, 0)", x -> x.peopleBy(1, 1, 0, 0), 0);
        refused(NothingChangesTest::fullStrand, "peopleBy(1, 1, 0, 2)", x -> x.peopleBy(1, 1, 0, 2), 0);
    }

    @Holds("promise 37: taken() changes nothing")
    static void p37Asked() {
        asked("taken(1, 0)", x -> x.taken(1, 0));
        asked("taken(7, 6)", x -> x.taken(7, 6));
        refused("taken(1, 7)", x -> x.taken(1, 7), -2);
        refused("taken(12, 0)", x -> x.taken(12, 0), -12);
        refused("taken(5, 0)", x -> x.taken(5, 0), -11);
        refused("taken(1, 6)", x -> x.taken(1, 6), -13);
    }
}
