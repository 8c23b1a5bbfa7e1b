/** Promises 1 to 5 and 7 to 11, sentence by sentence, at their bounds. */
public final class PeopleSentencesTest {
    private static final int[] FAR_OFF = {Integer.MIN_VALUE, -1000, 1000, Integer.MAX_VALUE};

    private PeopleSentencesTest() {
    }

    public static void main(String[] args) throws ReflectiveOperationException {
        Sentences.run(PeopleSentencesTest.class, 1, 2, 3, 4, 5, 7, 8, 9, 10, 11);
    }

    private static void due(String call, long got, long want) {
        Sentences.due(call, got, want);
    }

    private static FerryForAlone six() {
        return Check.strand(0, 1, 0, 11, 0, 21, 0, 31, 0, 41, 0, 51);
    }

    /** One of 0, who is IN THE BOAT, THE FERRY being OUT for 4; one of 1. */
    private static FerryForAlone oneInTheBoat() {
        FerryForAlone x = Check.strand(0, 0, 0, 3);
        x.put(0, 2, 9);
        x.put(1, 1, 1);
        x.hour();
        return x;
    }

    private static FerryForAlone fed(int bytes) {
        FerryForAlone x = new FerryForAlone();
        for (int i = 0; i < bytes; i++) {
            x.feed(1, ' ', 0, 0, 0, 0);
        }
        return x;
    }

    @Holds("promise 1: nobody")
    static void p01Nobody() {
        FerryForAlone x = new FerryForAlone();
        due("people", x.count(0), 0);
        due("one of 0", x.told(0, 0), -5);
        due("who are seen", x.ferry(4), 0);
        due("who are over", x.ferry(5), 0);
    }

    @Holds("promise 1: hour 0, out 0, nobody in the boat, nobody fetched at first")
    static void p01AtFirst() {
        FerryForAlone x = new FerryForAlone();
        due("hour", x.count(1), 0);
        due("fetched", x.count(2), 0);
        due("out", x.ferry(0), 0);
        due("in the boat", x.ferry(1), -1);
        due("choice", x.ferry(2), -1);
    }

    @Holds("promise 1: text 0, and the law, at first; the tape empty")
    static void p01FirstText() {
        FerryForAlone x = new FerryForAlone();
        due("texts", x.count(3), 1);
        due("the law", x.count(4), 0);
        due("bytes of the tape", x.count(5), 0);
        x.traveller(7, 9);
        x.put(0, 2, 13);
        due("gaps 5", x.asks(0, 0), 5);
        due("likes waited", x.asks(1, 0), 13);
        due("walks 0", x.asks(2, 0), 0);
    }

    @Holds("promise 1: sheets are missing at first, and there is no image")
    static void p01NoSheets() {
        FerryForAlone x = new FerryForAlone();
        for (int s = 0; s < 4; s++) {
            due("cell(" + s + ", 0, 0)", x.cell(s, 0, 0), -11);
        }
        due("back()", x.back(), -3);
    }

    @Holds("promise 1: each object has its own")
    static void p01OfItsOwn() {
        FerryForAlone x = six();
        x.bay(0, 5);
        due("people of another one", new FerryForAlone().count(0), 0);
        due("hour of another one", new FerryForAlone().count(1), 0);
    }

    @Holds("promise 2: what 0 .. 5, else BAD")
    static void p02What() {
        FerryForAlone x = six();
        due("count(0)", x.count(0), 6);
        due("count(5)", x.count(5), 0);
        due("count(-1)", x.count(-1), -2);
        due("count(6)", x.count(6), -2);
        Sentences.each("count", x::count, -2, FAR_OFF);
    }

    @Holds("promise 2: each at the least and at the most")
    static void p02Most() {
        FerryForAlone x = six();
        x.bay(0, 9999);
        due("people", x.count(0), 6);
        due("hour", x.count(1), 9999);
        for (int t = 1; t < 6; t++) {
            Check.read(x, "gaps 1;likes 1;walks 1;");
        }
        x.force(5);
        due("texts", x.count(3), 6);
        due("the law", x.count(4), 5);
        due("bytes of the tape", fed(160).count(5), 160);
    }

    @Holds("promise 3: hour 0 .. 9999 becomes v: what it was")
    static void p03Hour() {
        FerryForAlone x = six();
        due("bay(0, 9999)", x.bay(0, 9999), 0);
        due("hour", x.count(1), 9999);
        due("bay(0, 1)", x.bay(0, 1), 9999);
        due("bay(0, 0)", x.bay(0, 0), 1);
        due("hour", x.count(1), 0);
    }

    @Holds("promise 3: an hour below 0 or above 9999 is BAD")
    static void p03NoHour() {
        FerryForAlone x = six();
        x.bay(0, 7);
        due("bay(0, -1)", x.bay(0, -1), -2);
        due("bay(0, 10000)", x.bay(0, 10000), -2);
        Sentences.each("bay(0, v)", v -> x.bay(0, v), -2, Integer.MIN_VALUE, Integer.MAX_VALUE);
        due("hour", x.count(1), 7);
    }

    @Holds("promise 3: out for 0 .. 99 becomes v: what it was")
    static void p03Out() {
        FerryForAlone x = six();
        due("bay(1, 99)", x.bay(1, 99), 0);
        due("out", x.ferry(0), 99);
        due("bay(1, 1)", x.bay(1, 1), 99);
        due("bay(1, 0)", x.bay(1, 0), 1);
        due("out", x.ferry(0), 0);
        due("the hour stays", x.count(1), 0);
    }

    @Holds("promise 3: out for less than 0 or more than 99 is BAD")
    static void p03NotOut() {
        FerryForAlone x = six();
        x.bay(1, 7);
        due("bay(1, -1)", x.bay(1, -1), -2);
        due("bay(1, 100)", x.bay(1, 100), -2);
        Sentences.each("bay(1, v)", v -> x.bay(1, v), -2, FAR_OFF);
        due("out", x.ferry(0), 7);
    }

    @Holds("promise 3: what 0, 1, else BAD")
    static void p03What() {
        FerryForAlone x = six();
        due("bay(-1, 0)", x.bay(-1, 0), -2);
        due("bay(2, 0)", x.bay(2, 0), -2);
        Sentences.each("bay(what, 0)", what -> x.bay(what, 0), -2, FAR_OFF);
    }

    @Holds("promise 3: who is in the boat stays, be it out for 0 or for more")
    static void p03WhoIsInTheBoatStays() {
        FerryForAlone x = oneInTheBoat();
        due("bay(1, 0)", x.bay(1, 0), 4);
        due("in the boat", x.ferry(1), 0);
        due("over", x.ferry(5), 0);
        due("bay(1, 99)", x.bay(1, 99), 0);
        due("in the boat", x.ferry(1), 0);
        FerryForAlone y = six();
        y.bay(1, 3);
        due("nobody comes into it", y.ferry(1), -1);
    }

    @Holds("promise 4: what 0 .. 5, else -7")
    static void p04What() {
        FerryForAlone x = six();
        due("ferry(0)", x.ferry(0), 0);
        due("ferry(5)", x.ferry(5), 0);
        due("ferry(-1)", x.ferry(-1), -7);
        due("ferry(6)", x.ferry(6), -7);
        Sentences.each("ferry", x::ferry, -7, FAR_OFF);
    }

    @Holds("promise 4: who is in the boat, the first and the last; -1: nobody")
    static void p04InTheBoat() {
        due("nobody", six().ferry(1), -1);
        due("of 0", oneInTheBoat().ferry(1), 0);
        FerryForAlone x = six();
        x.put(5, 2, 1);
        x.hour();
        due("of 5", x.ferry(1), 5);
        x.hour();
        x.hour();
        due("back", x.ferry(1), -1);
    }

    @Holds("promise 4: choice now, be it out or not")
    static void p04ChoiceWhenOut() {
        FerryForAlone x = six();
        due("there", x.ferry(2), 0);
        x.bay(1, 99);
        due("out", x.ferry(2), 0);
        due("out, one in the boat, the other hidden", oneInTheBoat().ferry(2), -1);
    }

    @Holds("promise 4: choice -1, if nobody is alone")
    static void p04NoChoice() {
        FerryForAlone x = Check.strand(0, 10, 0, 11);
        due("two near each other", x.ferry(2), -1);
        due("nobody", new FerryForAlone().ferry(2), -1);
    }

    @Holds("promise 4: of like ones the first is the choice")
    static void p04FirstOfLikeOnes() {
        FerryForAlone x = six();
        due("all like", x.ferry(2), 0);
        x.put(2, 2, 5);
        x.put(4, 2, 5);
        due("two like", x.ferry(2), 2);
        x.put(4, 2, 6);
        due("one more", x.ferry(2), 4);
    }

    @Holds("promise 4: who are alone, seen, over, as bits: none and all six")
    static void p04Bits() {
        FerryForAlone x = six();
        due("alone", x.ferry(3), 63);
        due("seen", x.ferry(4), 63);
        due("over", x.ferry(5), 0);
        for (int p = 0; p < 6; p++) {
            x.put(p, 0, -1);
        }
        due("alone", x.ferry(3), 0);
        due("seen", x.ferry(4), 0);
        due("over", x.ferry(5), 63);
    }

    @Holds("promise 4: who is in the boat is not over")
    static void p04BoatIsNotOver() {
        FerryForAlone x = oneInTheBoat();
        due("over", x.ferry(5), 0);
        due("seen", x.ferry(4), 0);
    }

    @Holds("promise 5: n 1 .. 5, else BAD")
    static void p05HowMany() {
        FerryForAlone x = new FerryForAlone();
        due("n 0", x.feed(0, 1, 1, 1, 1, 1), -2);
        due("n 6", x.feed(6, 1, 1, 1, 1, 1), -2);
        Sentences.each("n", n -> x.feed(n, 1, 1, 1, 1, 1), -2, Integer.MIN_VALUE, -1, Integer.MAX_VALUE);
        due("none came", x.count(5), 0);
        due("n 1", x.feed(1, 1, 1, 1, 1, 1), 1);
        due("n 5", x.feed(5, 1, 1, 1, 1, 1), 6);
    }

    @Holds("promise 5: each byte 0 .. 255")
    static void p05Bytes() {
        FerryForAlone x = new FerryForAlone();
        due("all 0", x.feed(5, 0, 0, 0, 0, 0), 5);
        due("all 255", x.feed(5, 255, 255, 255, 255, 255), 10);
    }

    @Holds("promise 5: any of the five that is no byte is BAD, also one that would not come")
    static void p05NoByte() {
        FerryForAlone x = new FerryForAlone();
        for (int bad : new int[] {-1, 256, Integer.MIN_VALUE, Integer.MAX_VALUE}) {
            for (int n = 1; n <= 5; n++) {
                for (int k = 0; k < 5; k++) {
                    int[] b = new int[5];
                    b[k] = bad;
                    due(bad + " as the " + k + "th of " + n, x.feed(n, b[0], b[1], b[2], b[3], b[4]), -2);
                }
            }
        }
        due("none came", x.count(5), 0);
    }

    @Holds("promise 5: the first n come, one by one, and none behind them")
    static void p05FirstOnes() {
        for (int n = 1; n <= 5; n++) {
            FerryForAlone x = new FerryForAlone();
            due("feed " + n, x.feed(n, ' ', ' ', ' ', ' ', ' '), n);
            due("bytes of the tape", x.count(5), n);
            due("text()", x.text(), -100 - n);
        }
        FerryForAlone x = new FerryForAlone();
        x.feed(4, 'g', 'a', 'p', 's', '!');
        due("the fifth byte isn't there", x.text(), -104);
    }

    @Holds("promise 5: 160 bytes have room, and not one more")
    static void p05Full() {
        due("the 160th", fed(159).feed(1, 0, 0, 0, 0, 0), 160);
        due("the 161st", fed(160).feed(1, 0, 0, 0, 0, 0), -4);
        for (int n = 1; n <= 5; n++) {
            due(n + " to 160", fed(160 - n).feed(n, 0, 0, 0, 0, 0), 160);
            due(n + " to 161", fed(161 - n).feed(n, 0, 0, 0, 0, 0), -4);
        }
    }

    @Holds("promise 5: if they have not all room, none comes")
    static void p05NoneComes() {
        FerryForAlone x = fed(156);
        due("five of 156", x.feed(5, 0, 0, 0, 0, 0), -4);
        due("none came", x.count(5), 156);
        due("four of 156", x.feed(4, ' ', ' ', ' ', ' ', ' '), 160);
        due("blanks alone", x.text(), -260);
    }

    @Holds("promise 5: BAD ahead of FULL")
    static void p05BadAheadOfFull() {
        FerryForAlone x = fed(160);
        due("n", x.feed(0, 0, 0, 0, 0, 0), -2);
        due("n", x.feed(6, 0, 0, 0, 0, 0), -2);
        due("a byte", x.feed(1, 256, 0, 0, 0, 0), -2);
        due("a byte that would not come", x.feed(1, 0, 0, 0, 0, -1), -2);
    }

    @Holds("promise 7: a text that there is, else BAD: one text")
    static void p07OneText() {
        FerryForAlone x = six();
        due("force(0)", x.force(0), 0);
        due("force(1)", x.force(1), -2);
        due("force(-1)", x.force(-1), -2);
        Sentences.each("force", x::force, -2, FAR_OFF);
        due("the law", x.count(4), 0);
    }

    @Holds("promise 7: a text that there is, else BAD: six texts; which was")
    static void p07SixTexts() {
        FerryForAlone x = six();
        for (int t = 1; t < 6; t++) {
            due("force(" + t + ") too early", x.force(t), -2);
            Check.read(x, "gaps " + t + ";likes 1;walks 1;");
        }
        due("force(5)", x.force(5), 0);
        due("gaps", x.asks(0, 0), 5);
        due("force(6)", x.force(6), -2);
        due("the law", x.count(4), 5);
        due("force(5)", x.force(5), 5);
        due("force(0)", x.force(0), 5);
    }

    @Holds("promise 7: a text that had a fault is none")
    static void p07Fault() {
        FerryForAlone x = six();
        Check.read(x, "gaps 1;likes 1;walks 1;!");
        due("force(1)", x.force(1), -2);
    }

    @Holds("promise 8: part 0 .. 2, else -1000")
    static void p08Part() {
        FerryForAlone x = Check.under("gaps 1;likes 2;walks 3;", 0, 0);
        due("gaps", x.asks(0, 0), 1);
        due("likes", x.asks(1, 0), 2);
        due("walks", x.asks(2, 0), 3);
        due("asks(-1, 0)", x.asks(-1, 0), -1000);
        due("asks(3, 0)", x.asks(3, 0), -1000);
        Sentences.each("asks(part, 0)", part -> x.asks(part, 0), -1000, FAR_OFF);
    }

    @Holds("promise 8: one of people, else -1000")
    static void p08One() {
        FerryForAlone x = six();
        due("the first", x.asks(0, 0), 5);
        due("the last", x.asks(0, 5), 5);
        due("asks(0, 6)", x.asks(0, 6), -1000);
        due("asks(0, -1)", x.asks(0, -1), -1000);
        Sentences.each("asks(0, p)", p -> x.asks(0, p), -1000, FAR_OFF);
        due("nobody", new FerryForAlone().asks(0, 0), -1000);
        due("the second of one", Check.strand(0, 0).asks(0, 1), -1000);
    }

    @Holds("promise 8: what the text says, of whatever kind one is")
    static void p08OfAnyKind() {
        FerryForAlone x = Check.under("gaps 7;likes 8;walks 9;", 9, 1, 19, 11, 29, 21, 39, 31, 49, 41, 59, 51);
        for (int p = 0; p < 6; p++) {
            due("gaps of " + p, x.asks(0, p), 7);
            due("likes of " + p, x.asks(1, p), 8);
            due("walks of " + p, x.asks(2, p), 9);
        }
    }

    @Holds("promise 9: kinds 0 .. 5 with more 0 .. 9, else BAD")
    static void p09KindMore() {
        for (int kindMore : new int[] {0, 9, 10, 19, 50, 59}) {
            FerryForAlone x = new FerryForAlone();
            due("traveller(" + kindMore + ", 0)", x.traveller(kindMore, 0), 0);
            due("kind", x.told(0, 3), kindMore / 10);
            due("more", x.told(0, 4), kindMore % 10);
        }
        FerryForAlone x = new FerryForAlone();
        due("traveller(60, 0)", x.traveller(60, 0), -2);
        due("traveller(-1, 0)", x.traveller(-1, 0), -2);
        Sentences.each("traveller(kindMore, 0)", kindMore -> x.traveller(kindMore, 0), -2, FAR_OFF);
        due("nobody came", x.count(0), 0);
    }

    @Holds("promise 9: at a place 0 .. 63, else BAD")
    static void p09Place() {
        FerryForAlone x = new FerryForAlone();
        due("traveller(0, -1)", x.traveller(0, -1), -2);
        due("traveller(0, 64)", x.traveller(0, 64), -2);
        Sentences.each("traveller(0, place)", place -> x.traveller(0, place), -2, FAR_OFF);
        due("nobody came", x.count(0), 0);
        due("traveller(0, 0)", x.traveller(0, 0), 0);
        due("place", x.told(0, 0), 0);
        due("traveller(0, 63)", x.traveller(0, 63), 1);
        due("place", x.told(1, 0), 63);
    }

    @Holds("promise 9: six at most, the seventh is FULL")
    static void p09Full() {
        FerryForAlone x = new FerryForAlone();
        for (int p = 0; p < 6; p++) {
            due("the number", x.traveller(0, p), p);
        }
        due("the seventh", x.traveller(0, 6), -4);
        due("people", x.count(0), 6);
        x.put(0, 0, -1);
        due("also if one is over", x.traveller(0, 6), -4);
    }

    @Holds("promise 9: BAD ahead of FULL")
    static void p09BadAheadOfFull() {
        FerryForAlone x = six();
        due("kind", x.traveller(60, 0), -2);
        due("kind", x.traveller(-1, 0), -2);
        due("place", x.traveller(0, 64), -2);
        due("place", x.traveller(0, -1), -2);
    }

    @Holds("promise 9: not hidden and waited 0, as one comes")
    static void p09AsOneComes() {
        FerryForAlone x = Check.strand(0, 0);
        x.put(0, 1, 1);
        x.put(0, 2, 9);
        x.bay(0, 9);
        x.traveller(0, 20);
        due("hidden", x.told(1, 1), 0);
        due("waited", x.told(1, 2), 0);
        due("of the first, hidden", x.told(0, 1), 1);
    }

    @Holds("promise 10: a place 0 .. 63, or -1: over; what it was")
    static void p10Place() {
        FerryForAlone x = Check.strand(0, 5);
        due("put(0, 0, 63)", x.put(0, 0, 63), 5);
        due("put(0, 0, 0)", x.put(0, 0, 0), 63);
        due("put(0, 0, -1)", x.put(0, 0, -1), 0);
        due("over", x.ferry(5), 1);
        due("put(0, 0, 7)", x.put(0, 0, 7), -1);
        due("not over", x.ferry(5), 0);
        due("place", x.told(0, 0), 7);
    }

    @Holds("promise 10: a place below -1 or above 63 is -7")
    static void p10NoPlace() {
        FerryForAlone x = Check.strand(0, 5);
        due("put(0, 0, -2)", x.put(0, 0, -2), -7);
        due("put(0, 0, 64)", x.put(0, 0, 64), -7);
        Sentences.each("put(0, 0, v)", v -> x.put(0, 0, v), -7, FAR_OFF);
        due("place", x.told(0, 0), 5);
    }

    @Holds("promise 10: hidden 1, 0; what it was; else -7")
    static void p10Hidden() {
        FerryForAlone x = Check.strand(0, 5);
        due("put(0, 1, 1)", x.put(0, 1, 1), 0);
        due("put(0, 1, 1)", x.put(0, 1, 1), 1);
        due("put(0, 1, 2)", x.put(0, 1, 2), -7);
        due("put(0, 1, -1)", x.put(0, 1, -1), -7);
        Sentences.each("put(0, 1, v)", v -> x.put(0, 1, v), -7, FAR_OFF);
        due("hidden", x.told(0, 1), 1);
        due("put(0, 1, 0)", x.put(0, 1, 0), 1);
        due("hidden", x.told(0, 1), 0);
    }

    @Holds("promise 10: waited 0 .. 99; what it was; else -7")
    static void p10Waited() {
        FerryForAlone x = Check.strand(0, 5);
        due("put(0, 2, 99)", x.put(0, 2, 99), 0);
        due("put(0, 2, 100)", x.put(0, 2, 100), -7);
        due("put(0, 2, -1)", x.put(0, 2, -1), -7);
        Sentences.each("put(0, 2, v)", v -> x.put(0, 2, v), -7, FAR_OFF);
        due("put(0, 2, 0)", x.put(0, 2, 0), 99);
        due("waited", x.told(0, 2), 0);
    }

    @Holds("promise 10: what 0 .. 2, else -7")
    static void p10What() {
        FerryForAlone x = Check.strand(0, 5);
        due("put(0, -1, 0)", x.put(0, -1, 0), -7);
        due("put(0, 3, 0)", x.put(0, 3, 0), -7);
        Sentences.each("put(0, what, 0)", what -> x.put(0, what, 0), -7, FAR_OFF);
    }

    @Holds("promise 10: not the place of who is in the boat: -7")
    static void p10InTheBoat() {
        FerryForAlone x = oneInTheBoat();
        for (int v : new int[] {-1, 0, 31, 63}) {
            due("put(0, 0, " + v + ")", x.put(0, 0, v), -7);
        }
        due("in the boat", x.ferry(1), 0);
        due("at none", x.told(0, 0), -1);
        due("the place of another one", x.put(1, 0, 8), 3);
        x.bay(1, 1);
        x.hour();
        due("no more in the boat", x.put(0, 0, 8), -1);
    }

    @Holds("promise 10: hidden and waited of who is in the boat may be put")
    static void p10OthersInTheBoat() {
        FerryForAlone x = oneInTheBoat();
        due("put(0, 1, 1)", x.put(0, 1, 1), 0);
        due("put(0, 2, 3)", x.put(0, 2, 3), 9);
        due("hidden", x.told(0, 1), 1);
        due("waited", x.told(0, 2), 3);
    }

    @Holds("promise 10: none such -5, ahead of -7")
    static void p10NoneSuch() {
        FerryForAlone x = six();
        due("put(5, 0, 0)", x.put(5, 0, 0), 51);
        due("put(6, 0, 0)", x.put(6, 0, 0), -5);
        due("put(-1, 0, 0)", x.put(-1, 0, 0), -5);
        Sentences.each("put(p, 0, 0)", p -> x.put(p, 0, 0), -5, FAR_OFF);
        due("ahead of what", x.put(6, 3, 0), -5);
        due("ahead of v", x.put(6, 0, 64), -5);
        due("nobody", new FerryForAlone().put(0, 0, 0), -5);
    }

    @Holds("promise 11: what 0 .. 9, else -7")
    static void p11What() {
        FerryForAlone x = six();
        due("told(0, 0)", x.told(0, 0), 1);
        due("told(0, 9)", x.told(0, 9), 10);
        due("told(0, -1)", x.told(0, -1), -7);
        due("told(0, 10)", x.told(0, 10), -7);
        Sentences.each("told(0, what)", what -> x.told(0, what), -7, FAR_OFF);
    }

    @Holds("promise 11: -7 ahead of a -1 that is an answer")
    static void p11WhatOfOneAtNone() {
        FerryForAlone x = oneInTheBoat();
        due("told(0, 9)", x.told(0, 9), -1);
        due("told(0, 10)", x.told(0, 10), -7);
        due("told(0, -1)", x.told(0, -1), -7);
    }

    @Holds("promise 11: none such -5, ahead of -7")
    static void p11NoneSuch() {
        FerryForAlone x = six();
        due("told(5, 0)", x.told(5, 0), 51);
        due("told(6, 0)", x.told(6, 0), -5);
        due("told(-1, 0)", x.told(-1, 0), -5);
        Sentences.each("told(p, 0)", p -> x.told(p, 0), -5, FAR_OFF);
        due("ahead of what", x.told(6, 10), -5);
        due("ahead of what", x.told(-1, -1), -5);
        due("the second of one", Check.strand(0, 0).told(1, 0), -5);
    }

    @Holds("promise 11: the place; -1: at none, in the boat or over")
    static void p11Place() {
        FerryForAlone x = oneInTheBoat();
        due("in the boat", x.told(0, 0), -1);
        x.put(1, 0, -1);
        due("over", x.told(1, 0), -1);
        due("the first place", Check.strand(0, 0).told(0, 0), 0);
        due("the last place", Check.strand(0, 63).told(0, 0), 63);
    }

    @Holds("promise 11: hidden 1, 0; waited 0 .. 99; kind 0 .. 5; more 0 .. 9")
    static void p11OfOne() {
        FerryForAlone x = Check.strand(0, 5, 59, 50);
        x.put(1, 1, 1);
        x.put(1, 2, 99);
        int[] first = {5, 0, 0, 0, 0};
        int[] last = {50, 1, 99, 5, 9};
        for (int what = 0; what < 5; what++) {
            due("told(0, " + what + ")", x.told(0, what), first[what]);
            due("told(1, " + what + ")", x.told(1, what), last[what]);
        }
    }

    @Holds("promise 11: the gap at the least and at the most")
    static void p11Gap() {
        due("a traveller's least", Check.under("gaps 0;likes 0;walks 0;", 0, 0).told(0, 5), 0);
        due("a popular's most", Check.under("gaps 99;likes 0;walks 0;", 29, 0).told(0, 5), 108);
    }

    @Holds("promise 11: how one is liked, 1000 more, at the least and at the most")
    static void p11Liked() {
        due("a priest's least", Check.under("gaps 0;likes -99;walks 0;", 19, 0).told(0, 6), 892);
        due("a traveller's most", Check.under("gaps 0;likes 99;walks 0;", 0, 0).told(0, 6), 1099);
        due("0", Check.strand(0, 0).told(0, 6), 1000);
    }

    @Holds("promise 11: how far one walks, 1000 more, at the least and at the most")
    static void p11Walks() {
        FerryForAlone x = Check.under("gaps 5;likes 0;walks 99;", 30, 0, 30, 0);
        due("a child's least", x.told(0, 7), 900);
        due("a popular's most", Check.under("gaps 0;likes 0;walks 99;", 20, 0).told(0, 7), 1100);
        due("0", Check.strand(0, 0).told(0, 7), 1000);
    }

    @Holds("promise 11: alone 1, 0, and 0 of one who is not seen")
    static void p11Alone() {
        FerryForAlone x = six();
        due("alone", x.told(0, 8), 1);
        x.put(1, 0, 5);
        due("not alone", x.told(0, 8), 0);
        x.put(3, 1, 1);
        due("hidden", x.told(3, 8), 0);
        x.put(4, 0, -1);
        due("over", x.told(4, 8), 0);
        due("in the boat", oneInTheBoat().told(0, 8), 0);
    }

    @Holds("promise 11: far 0 .. 63")
    static void p11Far() {
        due("at one place", Check.strand(0, 9, 0, 9).told(0, 9), 0);
        due("from end to end", Check.strand(0, 0, 0, 63).told(0, 9), 63);
        due("from end to end", Check.strand(0, 0, 0, 63).told(1, 9), 63);
        FerryForAlone x = Check.strand(0, 10, 0, 4, 0, 17);
        due("the next one is below", x.told(0, 9), 6);
        x.put(1, 0, 2);
        due("the next one is above", x.told(0, 9), 7);
    }

    @Holds("promise 11: far -1, if nobody else is seen, or one is at none")
    static void p11NotFar() {
        due("nobody else", Check.strand(0, 9).told(0, 9), -1);
        FerryForAlone x = Check.strand(0, 9, 0, 20);
        x.put(1, 1, 1);
        due("the other one is hidden", x.told(0, 9), -1);
        due("far of the hidden one", x.told(1, 9), 11);
        x.put(1, 1, 0);
        x.put(1, 0, -1);
        due("the other one is over", x.told(0, 9), -1);
        due("of the one who is over", x.told(1, 9), -1);
        due("of the one in the boat", oneInTheBoat().told(0, 9), -1);
    }
}
