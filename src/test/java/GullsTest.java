/** Promises 29 to 32: gulls by lots, and images. */
public final class GullsTest {
    private static final Check CHECK = new Check();
    private static final String ALONE_IN_THE_MIDDLE =
            "gaps 99*(1-(21<place and place<42));likes 0;walks 0;";

    public static void main(String[] args) {
        drawn();
        drawnBySix();
        drawnAheadOfTheHour();
        odds();
        image();
        imageOfAll();
        imageAgain();
        CHECK.end();
    }

    private static void due(String call, long got, long want) {
        CHECK.due(call, got, want);
    }

    /**
     * One waits at 5, and the ferry is away till the 11th hour: one is over behind the 12th if, and only if, the
     * gulls have brought one to a place of 22 .. 41 by then. The places were reckoned apart from the program.
     */
    private static FerryForAlone lateFerry() {
        FerryForAlone x = Check.strand(0, 5);
        x.bay(1, 10);
        return x;
    }

    private static void drawn() {
        CHECK.about("promise 29");
        FerryForAlone x = lateFerry();
        int[] seeds = {0, 1, 2, 3, 4, 5, 6, 7, 8, 9, 10, 11, 99999};
        int[] over = {1, 0, 1, 0, 0, 1, 0, 0, 0, 0, 0, 1, 0};
        for (int i = 0; i < seeds.length; i++) {
            due("drawn(" + seeds[i] + ", 0)", x.drawn(seeds[i], 0), 1);
            due("drawn(" + seeds[i] + ", 1)", x.drawn(seeds[i], 1), over[i]);
        }
        due("one stays", x.told(0, 0), 5);
        due("the ferry stays", x.ferry(0), 10);
        due("drawn(-1, 0)", x.drawn(-1, 0), -2);
        due("drawn(100000, 0)", x.drawn(100000, 0), -2);
        due("drawn(0, 2)", x.drawn(0, 2), -2);
        due("drawn(0, -1)", x.drawn(0, -1), -2);
        x.put(0, 0, -1);
        due("who is at none isn't brought back", x.drawn(0, 0), 0);
        due("who is at none", x.drawn(0, 1), 1);
        x = Check.strand(0, 0);
        due("out of the boat nobody is brought", x.drawn(5, 0), 1);
        x = lateFerry();
        x.bay(1, 11);
        due("twelve hours are enough", x.drawn(0, 0), 1);
        x.bay(1, 12);
        due("twelve hours are too few", x.drawn(0, 0), 0);
        x.bay(1, 10);
        x.put(0, 1, 1);
        due("a hidden one isn't fetched", x.drawn(0, 0), 0);
    }

    // The answers of the next three were reckoned by a few lines of another language, apart from the program.

    private static void drawnBySix() {
        CHECK.about("promise 29, six of them");
        FerryForAlone x = Check.under("gaps 5;likes 0;walks 0;", 0, 5, 0, 62, 0, 10, 0, 20, 0, 50, 0, 40);
        int[] fetched = {4, 3, 5, 3, 4, 4, 4, 5};
        int[] over = {19, 3, 15, 6, 7, 7, 7, 15};
        for (int seed = 0; seed < fetched.length; seed++) {
            due("drawn(" + seed + ", 0)", x.drawn(seed, 0), fetched[seed]);
            due("drawn(" + seed + ", 1)", x.drawn(seed, 1), over[seed]);
        }
        dueOdds(x, 0, 40, 3, 1, 1);
        dueOdds(x, 0, 40, 4, 7, 10);
        dueOdds(x, 0, 40, 5, 1, 20);
        dueOdds(x, 0, 40, 6, 0, 1);
    }

    private static void drawnAheadOfTheHour() {
        CHECK.about("promise 29, the gulls come ahead of the hour");
        FerryForAlone x = Check.under(ALONE_IN_THE_MIDDLE, 0, 5, 0, 62);
        due("drawn(0, 0)", x.drawn(0, 0), 2);
        due("drawn(0, 1)", x.drawn(0, 1), 3);
        due("drawn(1, 0)", x.drawn(1, 0), 0);
        due("drawn(1, 1)", x.drawn(1, 1), 0);
        x.bay(1, 11);
        int[] fetched = {1, 0, 1, 0, 0, 1, 0, 1, 0, 1};
        for (int seed = 0; seed < fetched.length; seed++) {
            due("drawn(" + seed + ", 0), in the last hour", x.drawn(seed, 0), fetched[seed]);
        }
    }

    private static void odds() {
        CHECK.about("promise 30");
        FerryForAlone x = Check.under(ALONE_IN_THE_MIDDLE, 0, 5, 0, 62);
        dueOdds(x, 0, 1, 0, 1, 1);
        dueOdds(x, 0, 7, 1, 4, 7);
        dueOdds(x, 0, 40, 1, 3, 4);
        dueOdds(x, 0, 40, 2, 29, 40);
        dueOdds(x, 0, 40, 3, 0, 1);
        dueOdds(x, 0, 40, 12, 0, 1);
        dueOdds(x, 99999, 1, 1, 0, 1);
        dueOdds(x, 99999, 7, 1, 6, 7);
        dueOdds(x, 99999, 40, 2, 27, 40);
        due("odds(0, 0, 0, 0)", x.odds(0, 0, 0, 0), FerryForAlone.NO);
        due("odds(0, 41, 0, 0)", x.odds(0, 41, 0, 0), FerryForAlone.NO);
        due("odds(-1, 1, 0, 0)", x.odds(-1, 1, 0, 0), FerryForAlone.NO);
        due("odds(100000, 1, 0, 0)", x.odds(100000, 1, 0, 0), FerryForAlone.NO);
        due("odds(0, 1, -1, 0)", x.odds(0, 1, -1, 0), FerryForAlone.NO);
        due("odds(0, 1, 13, 0)", x.odds(0, 1, 13, 0), FerryForAlone.NO);
        due("odds(0, 1, 0, 2)", x.odds(0, 1, 0, 2), FerryForAlone.NO);
        due("odds(0, 1, 0, -1)", x.odds(0, 1, 0, -1), FerryForAlone.NO);
        due("both stay", x.ferry(4), 3);
    }

    private static void dueOdds(FerryForAlone x, int seed, int seeds, int least, long above, long below) {
        String call = "odds(" + seed + ", " + seeds + ", " + least;
        due(call + ", 0)", x.odds(seed, seeds, least, 0), above);
        due(call + ", 1)", x.odds(seed, seeds, least, 1), below);
    }

    private static void image() {
        CHECK.about("promises 31 and 32");
        FerryForAlone x = new FerryForAlone();
        due("back() without an image", x.back(), -3);
        due("image() of nobody", x.image(), 0);
        x.traveller(0, 31);
        due("back() to nobody", x.back(), 0);
        due("nobody", x.told(0, 0), -5);
        due("a new one is the first again", x.traveller(12, 40), 0);
        due("of the new kind", x.told(0, 3), 1);
        x.put(0, 1, 1);
        x.put(0, 2, 9);
        due("back() once more", x.back(), 0);
        x.traveller(0, 0);
        due("a new one isn't hidden as the one that came since was", x.told(0, 1), 0);
        due("nor has it waited as that one had", x.told(0, 2), 0);
    }

    private static void imageOfAll() {
        CHECK.about("promises 31 and 32, all that it keeps");
        FerryForAlone x = Check.under("gaps 5;likes 0;walks 1;", 0, 31, 0, 10, 0, 50);
        x.put(2, 1, 1);
        x.put(1, 2, 7);
        x.hour();
        due("image()", x.image(), 3);
        x.bay(0, 77);
        x.bay(1, 0);
        x.put(1, 0, 33);
        x.put(1, 2, 9);
        x.put(2, 1, 0);
        x.hour();
        x.traveller(59, 3);
        x.force(0);
        Check.read(x, "gaps 1;likes 1;walks 1;");
        Check.feed(x, "gaps ");
        x.sheet(0, 0, 3);
        due("back()", x.back(), 3);
        due("people", x.count(0), 3);
        due("hour", x.count(1), 1);
        due("fetched", x.count(2), 1);
        due("the law", x.count(4), 1);
        due("out", x.ferry(0), 1);
        due("in the boat", x.ferry(1), 0);
        due("place", x.told(0, 0), -1);
        due("place", x.told(1, 0), 11);
        due("waited", x.told(1, 2), 8);
        due("hidden", x.told(2, 1), 1);
        due("over", x.ferry(5), 0);
        due("none such any more", x.told(3, 0), -5);
        due("texts stay", x.count(3), 3);
        due("the tape stays", x.count(5), 5);
        due("the sheets stay", x.cell(0, 2, 1), 1);
        due("the next one", x.traveller(20, 3), 3);
        due("isn't as the one that came since", x.told(3, 3), 2);
    }

    private static void imageAgain() {
        CHECK.about("promises 31 and 32, another image");
        FerryForAlone x = Check.strand(0, 31);
        x.image();
        x.walk(0, 5);
        due("image()", x.image(), 1);
        x.walk(0, 5);
        x.back();
        due("the last image counts", x.told(0, 0), 36);
        x.put(0, 0, 2);
        x.back();
        due("it stays for another time", x.told(0, 0), 36);
    }
}
