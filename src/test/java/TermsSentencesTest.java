/** What 'Terms' says of people, kinds and an hour, sentence by sentence, at the bounds. */
public final class TermsSentencesTest {
    private static final int TRAVELLER = 0, PRIEST = 10, POPULAR = 20, CHILD = 30, DOG = 40, LAMP = 50;

    private TermsSentencesTest() {
    }

    public static void main(String[] args) throws ReflectiveOperationException {
        Sentences.run(TermsSentencesTest.class);
    }

    private static void due(String call, long got, long want) {
        Sentences.due(call, got, want);
    }

    private static FerryForAlone saying(int gaps, int likes, int walks, int... kindMoreAndPlace) {
        return Check.under("gaps " + gaps + ";likes " + likes + ";walks " + walks + ";", kindMoreAndPlace);
    }

    private static int gap(int gaps, int kindMore) {
        return saying(gaps, 0, 0, kindMore, 30).told(0, 5);
    }

    private static int liked(int likes, int kindMore, int hour) {
        FerryForAlone x = saying(5, likes, 0, kindMore, 30);
        x.bay(0, hour);
        return x.told(0, 6) - 1000;
    }

    private static int walks(int walks, int kindMore, int hour, boolean alone) {
        FerryForAlone x = saying(5, 0, walks, kindMore, 30, TRAVELLER, alone ? 60 : 30);
        x.bay(0, hour);
        return x.told(0, 7) - 1000;
    }

    @Holds("what it is: an object is used for 512 calls, and the last of them still answers")
    static void lastCall() {
        FerryForAlone x = Check.strand(0, 30, 0, 31);
        for (int call = 2; call < 511; call++) {
            x.hour();
        }
        due("waited", x.told(0, 2), 99);
        due("the 512th call", x.count(1), 509);
    }

    // ---- people

    @Holds("the terms: in thought the hour may pass 9999")
    static void hourPasses9999() {
        FerryForAlone x = Check.under("gaps 99*(hour<9999+1);likes 0;walks 0;", 0, 30, 0, 31);
        x.bay(0, 9999);
        due("run(1, 0)", x.run(1, 0), 0);
        due("run(2, 1)", x.run(2, 1), 1);
        due("run(4, 1)", x.run(4, 1), 12);
        due("when(1, 1)", x.when(1, 1), 1);
        due("film(0, 4)", x.film(0, 4), 4);
        Check.tell(x, 1, 0, 1, 0, 2);
        due("judge(1)", x.judge(1), -1);
        due("the filmed ones", x.judge(0), -1);
        due("hour", x.count(1), 9999);
    }

    @Holds("the terms: in thought hour 10059 is reached, and no bound is kept to")
    static void hourPassesFar() {
        FerryForAlone x = Check.under("gaps 99;likes 0;walks (hour-9999)=59;", 0, 30, 0, 31);
        x.bay(0, 9999);
        due("run(59, 10)", x.run(59, 10), 30);
        due("run(60, 10)", x.run(60, 10), 31);
    }

    @Holds("the terms: seen is at a place, not hidden")
    static void seen() {
        FerryForAlone x = Check.strand(0, 0, 0, 10, 0, 20, 0, 31);
        x.put(3, 2, 1);
        x.hour();
        due("not who is in the boat", x.ferry(4), 7);
        x.put(0, 1, 1);
        due("not who is hidden", x.ferry(4), 6);
        x.put(1, 0, -1);
        due("not who is over", x.ferry(4), 4);
        x.put(1, 1, 1);
        x.put(1, 0, 10);
        due("not who is hidden and at a place again", x.ferry(4), 4);
        x.put(1, 1, 0);
        due("who is not hidden any more", x.ferry(4), 6);
    }

    @Holds("the terms: alone, somebody seen being just as far as the gap, not alone nearer, on both sides")
    static void aloneAtTheGap() {
        for (int side : new int[] {-1, 1}) {
            FerryForAlone x = Check.strand(0, 30, 0, 30 + 5 * side);
            due("5 off", x.told(0, 8), 1);
            x.put(1, 0, 30 + 4 * side);
            due("4 off", x.told(0, 8), 0);
        }
    }

    @Holds("the terms: alone with a gap of 0 or of 1")
    static void aloneAtSmallGaps() {
        due("gap 0, at one place", saying(0, 0, 0, 0, 30, 0, 30).ferry(3), 3);
        due("gap 1, at one place", saying(1, 0, 0, 0, 30, 0, 30).ferry(3), 0);
        due("gap 1, one off", saying(1, 0, 0, 0, 30, 0, 31).ferry(3), 3);
    }

    @Holds("the terms: alone, if nobody else is seen, however wide the gap")
    static void aloneWithoutOthers() {
        FerryForAlone x = saying(99, 0, 0, 0, 30);
        due("one", x.ferry(3), 1);
        x.traveller(0, 63);
        due("two", x.ferry(3), 0);
        x.put(1, 1, 1);
        due("the other one hidden", x.ferry(3), 1);
        x.put(1, 1, 0);
        x.put(1, 0, -1);
        due("the other one over", x.ferry(3), 1);
    }

    @Holds("the terms: alone by the gap of one, not of the other")
    static void aloneByOwnGap() {
        due("gaps 9 and 4 of two who are 6 off", saying(9, 0, 0, TRAVELLER, 30, PRIEST, 36).ferry(3), 2);
        due("gaps 5 and 6 of two who are 5 off", saying(5, 0, 0, TRAVELLER, 30, POPULAR + 1, 35).ferry(3), 1);
    }

    // ---- kinds

    @Holds("the terms: a traveller's gap, likes and walks are as the text says")
    static void traveller() {
        due("gap", gap(7, TRAVELLER + 9), 7);
        due("liked", liked(-8, TRAVELLER + 9, 0), -8);
        due("walks, alone", walks(9, TRAVELLER + 9, 0, true), 9);
        due("walks, not alone", walks(9, TRAVELLER + 9, 1, false), 9);
    }

    @Holds("the terms: a priest's gap is half, cut")
    static void priestsGap() {
        int[] gaps = {0, 1, 2, 3, 98, 99};
        int[] halves = {0, 0, 1, 1, 49, 49};
        for (int i = 0; i < gaps.length; i++) {
            due("half of " + gaps[i], gap(gaps[i], PRIEST + 9), halves[i]);
        }
    }

    @Holds("the terms: a priest is liked more less, beyond -99 too")
    static void priestsLike() {
        due("by 0", liked(50, PRIEST, 1), 50);
        due("by 9", liked(50, PRIEST + 9, 1), 41);
        due("at the bound", liked(-99, PRIEST + 9, 1), -108);
        due("in every hour", liked(50, PRIEST + 9, 4), 41);
    }

    @Holds("the terms: a priest walks as a traveller")
    static void priestsWalk() {
        due("alone", walks(-9, PRIEST + 4, 0, true), -9);
        due("not alone", walks(-9, PRIEST + 4, 1, false), -9);
    }

    @Holds("the terms: a popular's gap is more more, beyond 99 too")
    static void popularsGap() {
        due("by 0", gap(7, POPULAR), 7);
        due("by 9", gap(7, POPULAR + 9), 16);
        due("of 0", gap(0, POPULAR + 9), 9);
        due("at the bound", gap(99, POPULAR + 9), 108);
    }

    @Holds("the terms: a popular walks 1 more, if alone")
    static void popularsWalk() {
        due("alone", walks(3, POPULAR + 2, 0, true), 4);
        due("not alone", walks(3, POPULAR + 2, 0, false), 3);
        due("at the bound", walks(99, POPULAR + 2, 0, true), 100);
        due("at the other bound", walks(-99, POPULAR + 2, 0, true), -98);
        FerryForAlone x = saying(5, 0, 3, POPULAR, 30);
        x.put(0, 1, 1);
        due("hidden, and so not alone", x.told(0, 7), 1003);
    }

    @Holds("the terms: a popular is liked as a traveller")
    static void popularsLike() {
        due("liked", liked(-8, POPULAR + 9, 0), -8);
    }

    @Holds("the terms: a child is liked 99, if hour modulo 4 is 0, else as a priest")
    static void childsLike() {
        int[] hours = {0, 1, 2, 3, 4, 5, 6, 7, 8, 9995, 9996, 9997, 9998, 9999};
        int[] likes = {99, 43, 43, 43, 99, 43, 43, 43, 99, 43, 99, 43, 43, 43};
        for (int i = 0; i < hours.length; i++) {
            due("at hour " + hours[i], liked(50, CHILD + 7, hours[i]), likes[i]);
        }
        due("at the bound", liked(-99, CHILD + 9, 1), -108);
    }

    @Holds("the terms: a child is liked 99 in hour 10000 in thought")
    static void childsLikeInThought() {
        FerryForAlone x = Check.under("gaps 9*(hour<9999+1);likes 98;walks 0;", CHILD + 9, 30, TRAVELLER, 31);
        x.bay(0, 9999);
        due("nobody in hour 9999", x.run(1, 1), 0);
        due("the child in hour 10000", x.run(2, 1), 1);
        x = Check.under("gaps 0;likes 98;walks 0;", TRAVELLER, 31, CHILD + 9, 31);
        x.bay(0, 9999);
        due("the other one in hour 9999", x.run(1, 1), 1);
        x.bay(1, 1);
        due("the child in hour 10000, when the ferry is back", x.run(2, 1), 2);
    }

    @Holds("the terms: a child walks 0, if alone, else 0 less 1 less a priest's")
    static void childsWalk() {
        due("alone", walks(7, CHILD + 5, 1, true), 0);
        due("not alone", walks(7, CHILD + 5, 1, false), -8);
        due("not alone, 0", walks(0, CHILD + 5, 0, false), -1);
        due("not alone, -1", walks(-1, CHILD + 5, 0, false), 0);
        due("at the bound", walks(99, CHILD, 0, false), -100);
        due("at the other bound", walks(-99, CHILD, 0, false), 98);
        FerryForAlone x = saying(5, 0, 3, CHILD, 30);
        x.put(0, 1, 1);
        due("hidden, and so not alone", x.told(0, 7), 996);
    }

    @Holds("the terms: a child's gap is a priest's")
    static void childsGap() {
        due("of 9", gap(9, CHILD + 9), 4);
        due("of 1", gap(1, CHILD + 9), 0);
    }

    @Holds("the terms: a dog is liked 0 less a popular's")
    static void dogsLike() {
        due("of 99", liked(99, DOG + 9, 0), -99);
        due("of -99", liked(-99, DOG + 9, 1), 99);
        due("of 0", liked(0, DOG + 9, 0), 0);
    }

    @Holds("the terms: a dog walks more in even hours, else 0 less more, alone or not")
    static void dogsWalk() {
        int[] hours = {0, 1, 2, 3, 4, 9998, 9999};
        int[] far = {6, -6, 6, -6, 6, 6, -6};
        for (int i = 0; i < hours.length; i++) {
            due("alone, at hour " + hours[i], walks(9, DOG + 6, hours[i], true), far[i]);
            due("not alone, at hour " + hours[i], walks(9, DOG + 6, hours[i], false), far[i]);
        }
        due("more 0", walks(9, DOG, 0, true), 0);
        due("more 9", walks(9, DOG + 9, 1, true), -9);
    }

    @Holds("the terms: a dog's gap is a popular's")
    static void dogsGap() {
        due("of 9", gap(9, DOG + 9), 18);
    }

    @Holds("the terms: a lamp's gap is 0: it is alone wherever it is seen")
    static void lampsGap() {
        due("gap", gap(99, LAMP + 9), 0);
        FerryForAlone x = saying(99, 0, 0, LAMP, 30, TRAVELLER, 30);
        due("in company", x.ferry(3), 1);
        x.put(0, 1, 1);
        due("hidden", x.ferry(3), 2);
    }

    @Holds("the terms: a lamp is liked 10 times more")
    static void lampsLike() {
        due("more 0", liked(99, LAMP, 0), 0);
        due("more 1", liked(-99, LAMP + 1, 1), 10);
        due("more 9", liked(-99, LAMP + 9, 4), 90);
    }

    @Holds("the terms: a lamp walks as a traveller")
    static void lampsWalk() {
        due("alone", walks(-9, LAMP + 4, 0, true), -9);
    }

    // ---- an hour

    @Holds("the terms: an hour, the ferry being out for 2, is 1 less, and who is in the boat stays in it")
    static void outFor2() {
        FerryForAlone x = Check.strand(0, 31);
        x.hour();
        x.bay(1, 2);
        due("hour()", x.hour(), -1);
        due("out", x.ferry(0), 1);
        due("in the boat", x.ferry(1), 0);
        due("over", x.ferry(5), 0);
    }

    @Holds("the terms: is it 0 then, nobody is in the boat any more")
    static void outFor1() {
        FerryForAlone x = Check.strand(0, 31);
        x.hour();
        due("out", x.ferry(0), 1);
        due("hour()", x.hour(), -1);
        due("out", x.ferry(0), 0);
        due("in the boat", x.ferry(1), -1);
        due("over", x.ferry(5), 1);
    }

    @Holds("the terms: in the hour in which it is back nobody is fetched, in the next one is")
    static void backAndNobody() {
        FerryForAlone x = Check.strand(0, 31);
        x.bay(1, 1);
        due("hour()", x.hour(), -1);
        due("still there", x.told(0, 0), 31);
        due("hour()", x.hour(), 0);
    }

    @Holds("the terms: out for 99 at first, it comes down one by one")
    static void outFor99() {
        FerryForAlone x = Check.strand(0, 31);
        x.bay(1, 99);
        for (int out = 98; out >= 0; out--) {
            due("hour()", x.hour(), -1);
            due("out", x.ferry(0), out);
        }
        due("hour()", x.hour(), 0);
    }

    @Holds("the terms: the ferry being there, who is in the boat stays in it till another is fetched")
    static void thereWithOneInTheBoat() {
        FerryForAlone x = Check.strand(0, 31);
        x.hour();
        x.bay(1, 0);
        due("hour()", x.hour(), -1);
        due("in the boat", x.ferry(1), 0);
        x.traveller(0, 31);
        due("hour()", x.hour(), 1);
        due("in the boat", x.ferry(1), 1);
        due("over", x.ferry(5), 1);
    }

    @Holds("the terms: who is liked most is fetched, of like ones the first")
    static void likedMost() {
        FerryForAlone x = Check.under("gaps 0;likes waited-50;walks 0;", 0, 31, 0, 31, 0, 31);
        due("all -50", x.ferry(2), 0);
        x.put(2, 2, 1);
        due("-49 ahead of -50", x.ferry(2), 2);
        x.put(1, 2, 1);
        due("two of -49", x.ferry(2), 1);
        due("hour()", x.hour(), 1);
    }

    @Holds("the terms: who is liked most, but is not alone, is not fetched")
    static void likedButNotAlone() {
        FerryForAlone x = Check.strand(0, 30, 0, 31, 0, 50);
        x.put(0, 2, 99);
        x.put(1, 2, 98);
        due("hour()", x.hour(), 2);
    }

    @Holds("the terms: a like of -108 is fetched, if nobody else is alone")
    static void likedLeast() {
        due("hour()", saying(0, -99, 0, PRIEST + 9, 30).hour(), 0);
    }

    @Holds("the terms: if nobody is alone, nobody is fetched, and the ferry stays")
    static void nobodyAlone() {
        FerryForAlone x = Check.strand(0, 30, 0, 31);
        due("hour()", x.hour(), -1);
        due("out", x.ferry(0), 0);
        due("in the boat", x.ferry(1), -1);
        due("fetched", x.count(2), 0);
        due("hour", x.count(1), 1);
    }

    @Holds("the terms: fetched, one is at none and in the boat, and fetched is 1 more")
    static void fetched() {
        FerryForAlone x = Check.strand(0, 30);
        due("hour()", x.hour(), 0);
        due("place", x.told(0, 0), -1);
        due("in the boat", x.ferry(1), 0);
        due("fetched", x.count(2), 1);
    }

    @Holds("the terms: out for 1 and a twentieth, cut, of how much twice the place and 63 differ by")
    static void howLongOut() {
        // 63 - 2 * 1 = 61 and 63 - 2 * 2 = 59 lie on both sides of 60; 41, 39 of 40; 21, 19 of 20; so above 63, too.
        int[] from = {0, 2, 12, 22, 42, 52, 62, 64};
        int[] out = {4, 3, 2, 1, 2, 3, 4};
        for (int i = 0; i < out.length; i++) {
            for (int place = from[i]; place < from[i + 1]; place++) {
                FerryForAlone x = Check.strand(0, place);
                x.hour();
                due("out, from " + place, x.ferry(0), out[i]);
            }
        }
    }

    @Holds("the terms: walking on to 63, else the bound")
    static void walkToTheLastPlace() {
        FerryForAlone x = saying(99, 0, 3, 0, 60, 0, 61, 0, 59, 0, 63);
        x.hour();
        int[] places = {63, 63, 62, 63};
        for (int p = 0; p < places.length; p++) {
            due("place of " + p, x.told(p, 0), places[p]);
        }
    }

    @Holds("the terms: walking back to 0, else the bound")
    static void walkToTheFirstPlace() {
        FerryForAlone x = saying(99, 0, -3, 0, 3, 0, 2, 0, 4, 0, 0);
        x.hour();
        int[] places = {0, 0, 1, 0};
        for (int p = 0; p < places.length; p++) {
            due("place of " + p, x.told(p, 0), places[p]);
        }
    }

    @Holds("the terms: a walk of 100 and of -100 to the bounds")
    static void walkFarthest() {
        FerryForAlone x = saying(99, 0, 99, POPULAR, 0);
        x.bay(1, 9);
        x.hour();
        due("100 on", x.told(0, 0), 63);
        x = saying(99, 0, 99, CHILD, 63, CHILD, 62);
        x.hour();
        due("100 back", x.told(0, 0), 0);
    }

    @Holds("the terms: waited 1 more, 99 at most")
    static void waited() {
        FerryForAlone x = Check.strand(0, 30, 0, 31);
        x.put(0, 2, 98);
        x.hour();
        due("98 and 1", x.told(0, 2), 99);
        due("0 and 1", x.told(1, 2), 1);
        x.hour();
        due("99 at most", x.told(0, 2), 99);
        due("1 and 1", x.told(1, 2), 2);
    }

    @Holds("the terms: who is at none neither walks nor waits")
    static void atNone() {
        FerryForAlone x = saying(5, 0, 1, 0, 31, 0, 20);
        x.put(1, 0, -1);
        x.hour();
        x.hour();
        for (int p = 0; p < 2; p++) {
            due("place of " + p, x.told(p, 0), -1);
            due("waited of " + p, x.told(p, 2), 0);
        }
    }

    @Holds("the terms: who is hidden walks and waits")
    static void hiddenOnes() {
        FerryForAlone x = saying(5, 0, 1, 0, 31);
        x.put(0, 1, 1);
        x.hour();
        due("place", x.told(0, 0), 32);
        due("waited", x.told(0, 2), 1);
    }

    @Holds("the terms: they walk when the ferry is out, too, and in the hour in which it is back")
    static void walkingMeanwhile() {
        FerryForAlone x = saying(5, 0, 1, 0, 31);
        x.bay(1, 2);
        x.hour();
        due("place", x.told(0, 0), 32);
        x.hour();
        due("place", x.told(0, 0), 33);
    }

    @Holds("the terms: one by one, by numbers: who comes later walks as those ahead are then")
    static void oneByOne() {
        FerryForAlone x = Check.under("gaps 5;likes 0;walks 0;", DOG + 9, 10, POPULAR, 12);
        x.bay(1, 9);
        x.hour();
        due("the dog is ahead", x.told(0, 0), 19);
        due("so the popular one was alone", x.told(1, 0), 13);
        x = Check.under("gaps 5;likes 0;walks 0;", POPULAR, 12, DOG + 9, 10);
        x.bay(1, 9);
        x.hour();
        due("the popular one was not alone yet", x.told(0, 0), 12);
    }

    @Holds("the terms: as it is then: fetched is 1 more, the out one is not seen, hour and waited are not yet 1 more")
    static void asItIsThen() {
        FerryForAlone x = Check.under("gaps 0;likes 0-place;walks fetched*20+seen*5+hour*2+waited;", 0, 20, 0, 30);
        x.bay(0, 1);
        x.put(1, 2, 1);
        due("hour()", x.hour(), 0);
        due("20 and 5 and 2 and 1 on", x.told(1, 0), 58);
    }

    @Holds("the terms: at last hour is 1 more")
    static void hourIs1More() {
        FerryForAlone x = Check.strand(0, 31);
        for (int h = 1; h <= 3; h++) {
            x.hour();
            due("hour", x.count(1), h);
        }
    }

    @Holds("the terms: over is at none, not in the boat")
    static void over() {
        FerryForAlone x = Check.strand(0, 31, 0, 10, 0, 20);
        x.put(1, 0, -1);
        x.put(2, 1, 1);
        x.hour();
        due("one is over, one in the boat, one hidden", x.ferry(5), 2);
    }
}
