/** Promises 29 to 32, and what 'Terms' says of gulls and images, sentence by sentence, at the bounds. */
public final class GullsSentencesTest {
    private static final int[] FAR_OFF = {Integer.MIN_VALUE, -1000, Integer.MAX_VALUE};
    // Who is brought where ahead of each of the twelve hours, by some seeds: reckoned by another program.
    private static final int[] SEEDS = {0, 1, 7, 99999, 100000, 100038};
    private static final int[][] WHO = {
        {1, 0, 1, 5, 5, 1, 3, 3, 5, 5, 0, 2}, {2, 5, 1, 3, 4, 2, 5, 5, 3, 3, 0, 3}, {2, 2, 1, 0, 2, 2, 2, 2, 3, 5, 4, 3},
        {2, 3, 1, 3, 4, 2, 2, 5, 5, 5, 2, 5}, {3, 3, 1, 1, 3, 3, 4, 1, 3, 4, 2, 0}, {5, 4, 2, 4, 3, 1, 0, 3, 4, 4, 3, 0}
    };
    private static final int[][] WHERE = {
        {34, 61, 35, 25, 63, 47, 13, 3, 50, 15, 33, 23}, {4, 59, 6, 50, 63, 31, 27, 7, 37, 31, 2, 47},
        {16, 47, 25, 11, 61, 60, 46, 28, 23, 63, 11, 61}, {55, 41, 56, 24, 15, 6, 28, 3, 52, 53, 13, 51},
        {25, 39, 28, 50, 14, 54, 42, 6, 39, 5, 46, 11}, {40, 22, 21, 55, 5, 5, 55, 12, 57, 35, 36, 14}
    };

    private GullsSentencesTest() {
    }

    public static void main(String[] args) throws ReflectiveOperationException {
        Sentences.run(GullsSentencesTest.class, 29, 30, 31, 32);
    }

    private static void due(String call, long got, long want) {
        Sentences.due(call, got, want);
    }

    private static FerryForAlone six() {
        return Check.strand(0, 1, 0, 11, 0, 21, 0, 31, 0, 41, 0, 51);
    }

    /** Six AT 8, each with the own number as MORE, of whom one alone is ever ALONE: there, in that HOUR. */
    private static FerryForAlone waitingFor(int who, int where, int hour) {
        return Check.under("gaps 99*(1-(place=" + where + " and hour=" + hour + " and more=" + who + "));likes 0;walks 0;",
                0, 8, 1, 8, 2, 8, 3, 8, 4, 8, 5, 8);
    }

    // ---- gulls

    @Holds("the terms: ahead of each of twelve hours who is numbered lot modulo 6 is at the other lot modulo 64")
    static void gulls() {
        for (int i = 0; i < 4; i++) {
            for (int h = 0; h < 12; h++) {
                int who = WHO[i][h];
                int where = WHERE[i][h];
                String gull = "seed " + SEEDS[i] + ", hour " + h;
                due(gull, waitingFor(who, where, h).drawn(SEEDS[i], 0), 1);
                due(gull + ", 1 on", waitingFor(who, where + 1, h).drawn(SEEDS[i], 0), 0);
                due(gull + ", another one", waitingFor((who + 1) % 6, where, h).drawn(SEEDS[i], 0), 0);
            }
        }
    }

    @Holds("the terms: the gull's place is reached ahead of the hour, not behind it")
    static void aheadOfTheHour() {
        due("in hour 0", waitingFor(1, 34, 0).drawn(0, 0), 1);
        due("it stays for hour 1", waitingFor(1, 34, 1).drawn(0, 0), 1);
        due("but is brought on ahead of hour 2", waitingFor(1, 34, 2).drawn(0, 0), 0);
        FerryForAlone x = waitingFor(2, 23, 11);
        due("in hour 11", x.drawn(0, 0), 1);
        due("not in hour 12", waitingFor(2, 23, 12).drawn(0, 0), 0);
    }

    @Holds("the terms: twelve hours: the ferry being out for 11 one is fetched, for 12 nobody")
    static void twelveHours() {
        FerryForAlone x = Check.strand(0, 31);
        x.bay(1, 11);
        due("for 11", x.drawn(3, 0), 1);
        x.bay(1, 12);
        due("for 12", x.drawn(3, 0), 0);
    }

    @Holds("the terms: who is at none is not brought: in the boat, over")
    static void notWhoIsAtNone() {
        FerryForAlone x = waitingFor(1, 34, 0);
        x.put(1, 0, -1);
        due("over", x.drawn(0, 0), 0);
        due("still over", x.drawn(0, 1), 2);
        FerryForAlone y = Check.under("gaps 0;likes (place=8)*9;walks 0;", 0, 9, 1, 8);
        due("who is fetched", y.hour(), 1);
        due("one is fetched, the one in the boat is not again", y.drawn(0, 0), 1);
    }

    @Holds("the terms: if there is one of that number: nobody there, one there")
    static void ifThereIsOne() {
        FerryForAlone x = new FerryForAlone();
        for (int seed = 0; seed < 20; seed++) {
            due("how many", x.drawn(seed, 0), 0);
            due("over", x.drawn(seed, 1), 0);
        }
        x.traveller(0, 5);
        x.put(0, 1, 1);
        due("one, hidden", x.drawn(0, 0), 0);
    }

    @Holds("the terms: a hidden one stays hidden at another place")
    static void hiddenOnes() {
        FerryForAlone x = waitingFor(1, 34, 0);
        x.put(1, 1, 1);
        due("how many", x.drawn(0, 0), 0);
    }

    @Holds("the terms: hours with gulls pass 9999 in thought")
    static void pastTheLastHour() {
        FerryForAlone x = Check.under("gaps 99*(hour-9999<11);likes 0;walks 0;", 0, 30, 0, 30);
        x.bay(0, 9999);
        due("in hour 10010", x.drawn(0, 0), 1);
        FerryForAlone y = Check.under("gaps 99*(hour-9999<12);likes 0;walks 0;", 0, 30, 0, 30);
        y.bay(0, 9999);
        due("not before hour 10011", y.drawn(0, 0), 0);
    }

    // ---- promise 29

    @Holds("promise 29: seed 0 .. 99999, else BAD")
    static void p29Seed() {
        FerryForAlone x = six();
        for (int what = 0; what < 2; what++) {
            int asked = what;
            due("drawn(0, " + what + ") is refused", x.drawn(0, what) < 0 ? 1 : 0, 0);
            due("drawn(99999, " + what + ") is refused", x.drawn(99999, what) < 0 ? 1 : 0, 0);
            due("drawn(-1, " + what + ")", x.drawn(-1, what), -2);
            due("drawn(100000, " + what + ")", x.drawn(100000, what), -2);
            Sentences.each("drawn(seed, " + what + ")", seed -> x.drawn(seed, asked), -2, FAR_OFF);
        }
    }

    @Holds("promise 29: what 0, 1, else BAD")
    static void p29What() {
        FerryForAlone x = six();
        due("drawn(0, -1)", x.drawn(0, -1), -2);
        due("drawn(0, 2)", x.drawn(0, 2), -2);
        Sentences.each("drawn(0, what)", what -> x.drawn(0, what), -2, FAR_OFF);
    }

    @Holds("promise 29: how many are fetched: not those fetched ahead")
    static void p29HowMany() {
        FerryForAlone x = Check.strand(0, 31, 0, 10);
        x.hour();
        due("how many", x.drawn(0, 0), 1);
        due("fetched", x.count(2), 1);
    }

    @Holds("promise 29: who are over then: who was over, who is back by then, not who is in the boat")
    static void p29Over() {
        FerryForAlone x = Check.under("gaps 99;likes 0;walks 0;", 0, 31);
        x.traveller(0, 5);
        x.put(1, 0, -1);
        x.bay(1, 11);
        due("one is in the boat then", x.drawn(0, 1), 2);
        x.bay(1, 0);
        due("both", x.drawn(0, 1), 3);
    }

    // ---- promise 30

    private static void dueOdds(FerryForAlone x, int seed, int seeds, int least, long above, long below) {
        String call = "odds(" + seed + ", " + seeds + ", " + least + ", ";
        due(call + "0)", x.odds(seed, seeds, least, 0), above);
        due(call + "1)", x.odds(seed, seeds, least, 1), below);
    }

    private static void noOdds(FerryForAlone x, int seed, int seeds, int least) {
        dueOdds(x, seed, seeds, least, FerryForAlone.NO, FerryForAlone.NO);
    }

    @Holds("promise 30: seed 0 .. 99999, else NO")
    static void p30Seed() {
        FerryForAlone x = six();
        dueOdds(x, 0, 1, 0, 1, 1);
        dueOdds(x, 99999, 1, 0, 1, 1);
        noOdds(x, -1, 1, 0);
        noOdds(x, 100000, 1, 0);
        for (int seed : FAR_OFF) {
            noOdds(x, seed, 1, 0);
        }
    }

    @Holds("promise 30: 1 .. 40 seeds, else NO")
    static void p30Seeds() {
        FerryForAlone x = six();
        dueOdds(x, 5, 40, 0, 1, 1);
        noOdds(x, 5, 0, 0);
        noOdds(x, 5, -1, 0);
        noOdds(x, 5, 41, 0);
        for (int seeds : FAR_OFF) {
            noOdds(x, 5, seeds, 0);
        }
    }

    @Holds("promise 30: least 0 .. 12, else NO")
    static void p30Least() {
        FerryForAlone x = six();
        dueOdds(x, 5, 3, 0, 1, 1);
        dueOdds(x, 5, 3, 12, 0, 1);
        noOdds(x, 5, 3, -1);
        noOdds(x, 5, 3, 13);
        for (int least : FAR_OFF) {
            noOdds(x, 5, 3, least);
        }
    }

    @Holds("promise 30: part 0, 1, else NO")
    static void p30Part() {
        FerryForAlone x = six();
        due("odds(5, 3, 0, -1)", x.odds(5, 3, 0, -1), FerryForAlone.NO);
        due("odds(5, 3, 0, 2)", x.odds(5, 3, 0, 2), FerryForAlone.NO);
        Sentences.each("odds(5, 3, 0, part)", part -> x.odds(5, 3, 0, part), FerryForAlone.NO, FAR_OFF);
    }

    @Holds("promise 30: so many or more")
    static void p30OrMore() {
        FerryForAlone x = Check.strand(0, 31);
        dueOdds(x, 0, 1, 0, 1, 1);
        dueOdds(x, 0, 1, 1, 1, 1);
        dueOdds(x, 0, 1, 2, 0, 1);
    }

    @Holds("promise 30: seed and each 1 more, from the first to the last of them")
    static void p30EachSeed() {
        dueOdds(waitingFor(1, 34, 0), 0, 1, 1, 1, 1);
        dueOdds(waitingFor(1, 34, 0), 1, 1, 1, 0, 1);
        dueOdds(waitingFor(2, 4, 0), 0, 2, 1, 1, 2);
        dueOdds(waitingFor(2, 4, 0), 0, 1, 1, 0, 1);
        dueOdds(waitingFor(2, 4, 0), 1, 1, 1, 1, 1);
    }

    @Holds("promise 30: they may pass 99999")
    static void p30Past99999() {
        for (int h = 0; h < 12; h++) {
            FerryForAlone x = waitingFor(WHO[4][h], WHERE[4][h], h);
            long first = x.drawn(99999, 0);
            due("one of two, seed 100000, hour " + h, x.odds(99999, 2, 1, 0) * 2 / x.odds(99999, 2, 1, 1), first + 1);
            FerryForAlone y = waitingFor(WHO[5][h], WHERE[5][h], h);
            long with = 40 * y.odds(99999, 40, 1, 0) / y.odds(99999, 40, 1, 1);
            long without = 39 * y.odds(99999, 39, 1, 0) / y.odds(99999, 39, 1, 1);
            due("the last of 40, seed 100038, hour " + h, with, without + 1);
        }
    }

    @Holds("promise 30: in lowest terms; none of them is 0 of 1")
    static void p30LowestTerms() {
        FerryForAlone x = waitingFor(1, 34, 0);
        due("by seed 0 alone, of 9", x.odds(0, 9, 1, 1), 9);
        dueOdds(waitingFor(1, 9, 99), 0, 40, 1, 0, 1);
        dueOdds(x, 0, 40, 0, 1, 1);
        FerryForAlone y = new FerryForAlone();
        dueOdds(y, 0, 6, 0, 1, 1);
        dueOdds(y, 0, 6, 1, 0, 1);
    }

    // ---- promises 31 and 32

    @Holds("promise 31: an image is kept: how many of people, 0, 6")
    static void p31HowMany() {
        due("nobody", new FerryForAlone().image(), 0);
        due("six", six().image(), 6);
        FerryForAlone x = six();
        x.put(0, 0, -1);
        x.put(1, 1, 1);
        due("who is over or hidden counts", x.image(), 6);
    }

    @Holds("promise 31: the last image counts")
    static void p31LastOne() {
        FerryForAlone x = Check.strand(0, 5);
        x.image();
        x.walk(0, 1);
        due("image()", x.image(), 1);
        x.walk(0, 1);
        due("back()", x.back(), 1);
        due("place", x.told(0, 0), 6);
    }

    @Holds("promise 32: STATE: there is none")
    static void p32NoImage() {
        FerryForAlone x = six();
        due("back()", x.back(), -3);
        due("people", x.count(0), 6);
        x.image();
        due("back()", x.back(), 6);
    }

    @Holds("promise 32: the image stays: back once more")
    static void p32Again() {
        FerryForAlone x = Check.strand(0, 5);
        x.image();
        for (int i = 0; i < 3; i++) {
            x.walk(0, 1);
            x.put(0, 1, 1);
            due("back()", x.back(), 1);
            due("place", x.told(0, 0), 5);
            due("hidden", x.told(0, 1), 0);
        }
    }

    @Holds("promise 32: where all people are: at a place, at none, in the boat")
    static void p32Places() {
        FerryForAlone x = six();
        x.put(5, 0, -1);
        x.hour();
        x.image();
        for (int p = 1; p < 6; p++) {
            x.put(p, 0, 60);
        }
        x.bay(1, 1);
        x.hour();
        x.put(0, 0, 33);
        x.put(4, 0, -1);
        x.back();
        int[] places = {-1, 11, 21, 31, 41, -1};
        for (int p = 0; p < 6; p++) {
            due("place of " + p, x.told(p, 0), places[p]);
        }
        due("in the boat", x.ferry(1), 0);
        due("over", x.ferry(5), 32);
    }

    @Holds("promise 32: who is hidden")
    static void p32Hidden() {
        FerryForAlone x = six();
        x.put(0, 1, 1);
        x.put(5, 1, 1);
        x.image();
        for (int p = 0; p < 6; p++) {
            x.put(p, 1, 1 - x.told(p, 1));
        }
        x.back();
        due("seen", x.ferry(4), 30);
    }

    @Holds("promise 32: waited")
    static void p32Waited() {
        FerryForAlone x = six();
        for (int p = 0; p < 6; p++) {
            x.put(p, 2, 90 + p);
        }
        x.image();
        for (int p = 0; p < 6; p++) {
            x.put(p, 2, p);
        }
        x.back();
        for (int p = 0; p < 6; p++) {
            due("waited of " + p, x.told(p, 2), 90 + p);
        }
    }

    @Holds("promise 32: all of the ferry: for how long it is out, who is in the boat, how many were fetched")
    static void p32TheFerry() {
        FerryForAlone x = six();
        x.image();
        x.hour();
        x.back();
        due("out", x.ferry(0), 0);
        due("in the boat", x.ferry(1), -1);
        due("fetched", x.count(2), 0);
        x.hour();
        x.image();
        while (x.ferry(0) > 0) {
            x.hour();
        }
        x.hour();
        due("another one in the boat", x.ferry(1), 1);
        x.back();
        due("out", x.ferry(0), 4);
        due("in the boat", x.ferry(1), 0);
        due("fetched", x.count(2), 1);
    }

    @Holds("promise 32: hour")
    static void p32Hour() {
        FerryForAlone x = six();
        x.bay(0, 9999);
        x.image();
        x.bay(0, 0);
        x.back();
        due("hour", x.count(1), 9999);
    }

    @Holds("promise 32: the law; texts that came since stay")
    static void p32TheLaw() {
        FerryForAlone x = six();
        Check.read(x, "gaps 1;likes 1;walks 1;");
        x.force(1);
        x.image();
        Check.read(x, "gaps 2;likes 2;walks 2;");
        x.force(2);
        x.back();
        due("the law", x.count(4), 1);
        due("gaps", x.asks(0, 0), 1);
        due("texts", x.count(3), 3);
        due("force(2)", x.force(2), 1);
        due("gaps", x.asks(0, 0), 2);
    }

    @Holds("promise 32: what it doesn't keep stays: the tape, sheets")
    static void p32Others() {
        FerryForAlone x = six();
        Check.feed(x, "gaps 3;");
        Check.tell(x, 0, 9);
        x.image();
        Check.feed(x, "likes 4;walks 5;");
        x.cell(0, 0, 1);
        x.sheet(1, 2, 7);
        x.back();
        due("bytes of the tape", x.count(5), 23);
        due("text()", x.text(), 1);
        due("the number told", x.judge(0), -1);
        due("a sheet that came since", x.cell(1, 6, 0), 1);
    }

    @Holds("promise 32: people that came since are none: how many there are, 0, 5")
    static void p32CameSince() {
        FerryForAlone x = new FerryForAlone();
        x.image();
        for (int p = 0; p < 6; p++) {
            x.traveller(0, p);
        }
        due("back()", x.back(), 0);
        due("people", x.count(0), 0);
        due("told(0, 0)", x.told(0, 0), -5);
        due("taken(0, 0)", x.taken(0, 0), -11);
        FerryForAlone y = Check.strand(0, 1, 0, 2, 0, 3, 0, 4, 0, 5);
        y.image();
        y.traveller(0, 6);
        due("full", y.traveller(0, 7), -4);
        due("back()", y.back(), 5);
        due("told(5, 0)", y.told(5, 0), -5);
        due("told(4, 0)", y.told(4, 0), 5);
        due("there is room again", y.traveller(0, 7), 5);
    }

    @Holds("promise 32: one that came since is none in the boat either")
    static void p32CameSinceInTheBoat() {
        FerryForAlone x = new FerryForAlone();
        x.image();
        x.traveller(0, 31);
        x.hour();
        due("in the boat", x.ferry(1), 0);
        x.back();
        due("in the boat", x.ferry(1), -1);
        due("out", x.ferry(0), 0);
        due("over", x.ferry(5), 0);
        x.traveller(0, 9);
        due("a new one of that number is there", x.put(0, 0, 8), 9);
    }

    @Holds("promise 32: one that comes where one was is new: neither hidden nor has it waited, of its own kind")
    static void p32NewOne() {
        FerryForAlone x = new FerryForAlone();
        x.image();
        x.traveller(59, 31);
        x.put(0, 1, 1);
        x.put(0, 2, 9);
        x.back();
        x.traveller(12, 20);
        int[] told = {20, 0, 0, 1, 2};
        for (int what = 0; what < told.length; what++) {
            due("told(0, " + what + ")", x.told(0, what), told[what]);
        }
    }
}
