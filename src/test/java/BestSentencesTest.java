/** Promises 16 to 21, sentence by sentence, at their bounds. */
public final class BestSentencesTest {
    private static final int[] FAR_OFF = {Integer.MIN_VALUE, -1000, 1000, Integer.MAX_VALUE};

    private BestSentencesTest() {
    }

    public static void main(String[] args) throws ReflectiveOperationException {
        Sentences.run(BestSentencesTest.class, 16, 17, 18, 19, 20, 21);
    }

    private static void due(String call, long got, long want) {
        Sentences.due(call, got, want);
    }

    private static FerryForAlone six() {
        return Check.strand(0, 1, 0, 11, 0, 21, 0, 31, 0, 41, 0, 51);
    }

    /** One of 0, who is IN THE BOAT; one of 1, who is OVER; one of 2, who is HIDDEN, AT 20. */
    private static FerryForAlone three() {
        FerryForAlone x = Check.strand(0, 0, 0, 10, 0, 20);
        x.put(1, 0, -1);
        x.put(2, 1, 1);
        x.hour();
        return x;
    }

    private static FerryForAlone gaps(int gaps, int... kindMoreAndPlace) {
        return Check.under("gaps " + gaps + ";likes 0;walks 0;", kindMoreAndPlace);
    }

    // ---- promise 16

    @Holds("promise 16: n 0 .. 60, else BAD")
    static void p16Hours() {
        FerryForAlone x = Check.strand(0, 30, 0, 31);
        due("hide(0, 1)", x.hide(0, 1), 0);
        due("hide(1, 1)", x.hide(1, 1), 1);
        due("hide(60, 1)", x.hide(60, 1), 1);
        for (int what = 0; what < 2; what++) {
            int asked = what;
            due("hide(-1, " + what + ")", x.hide(-1, what), -2);
            due("hide(61, " + what + ")", x.hide(61, what), -2);
            Sentences.each("hide(n, " + what + ")", n -> x.hide(n, asked), -2, FAR_OFF);
        }
    }

    @Holds("promise 16: what 0, 1, else BAD")
    static void p16What() {
        FerryForAlone x = Check.strand(0, 30, 0, 31);
        due("hide(1, -1)", x.hide(1, -1), -2);
        due("hide(1, 2)", x.hide(1, 2), -2);
        Sentences.each("hide(1, what)", what -> x.hide(1, what), -2, FAR_OFF);
    }

    @Holds("promise 16: BAD ahead of a -1 that is an answer")
    static void p16BadAheadOfNobody() {
        FerryForAlone x = new FerryForAlone();
        due("hide(61, 0)", x.hide(61, 0), -2);
        due("hide(-1, 0)", x.hide(-1, 0), -2);
    }

    @Holds("promise 16: nobody there: -1, and 0")
    static void p16NobodyThere() {
        FerryForAlone x = new FerryForAlone();
        due("hide(60, 0)", x.hide(60, 0), -1);
        due("hide(60, 1)", x.hide(60, 1), 0);
    }

    @Holds("promise 16: in no hour nobody is fetched: -1, and 0")
    static void p16NoHour() {
        FerryForAlone x = Check.strand(0, 30, 0, 31);
        due("hide(0, 0)", x.hide(0, 0), -1);
        due("hide(0, 1)", x.hide(0, 1), 0);
    }

    @Holds("promise 16: the 60th hour is one of them")
    static void p16TheLastHour() {
        FerryForAlone x = Check.strand(0, 30, 0, 31);
        x.bay(1, 59);
        due("hide(59, 0)", x.hide(59, 0), -1);
        due("hide(59, 1)", x.hide(59, 1), 0);
        due("hide(60, 0)", x.hide(60, 0), 0);
        due("hide(60, 1)", x.hide(60, 1), 1);
    }

    @Holds("promise 16: if more than so, not if as many")
    static void p16MoreThanSo() {
        FerryForAlone x = Check.strand(0, 30, 0, 31, 0, 50);
        due("as many in 1", x.hide(1, 0), -1);
        due("as many in 1", x.hide(1, 1), 1);
        due("more in 9", x.hide(9, 0), 0);
        due("more in 9", x.hide(9, 1), 2);
        due("fewer", six().hide(60, 0), -1);
        due("as many as so", six().hide(60, 1), 6);
    }

    @Holds("promise 16: of like ones the first, else the one by whom most are")
    static void p16FirstOfLikeOnes() {
        due("the first of two", Check.strand(0, 30, 0, 31).hide(9, 0), 0);
        due("the one between", Check.strand(0, 27, 0, 33, 0, 30).hide(60, 0), 2);
        due("the one between", Check.strand(0, 27, 0, 33, 0, 30).hide(60, 1), 2);
        due("the last one between", Check.strand(0, 1, 0, 11, 0, 21, 0, 28, 0, 35, 0, 31).hide(60, 0), 5);
    }

    @Holds("promise 16: of those who are seen")
    static void p16OfTheSeen() {
        FerryForAlone x = Check.strand(0, 29, 0, 31, 0, 32);
        x.put(0, 1, 1);
        due("not who is hidden", x.hide(9, 0), 1);
        x.put(2, 0, -1);
        due("not who is over", x.hide(9, 0), -1);
        due("as many as so", x.hide(9, 1), 1);
    }

    // ---- promise 17

    @Holds("promise 17: none such -5, ahead of -7")
    static void p17NoneSuch() {
        FerryForAlone x = six();
        due("stand(5, 0) is refused", x.stand(5, 0) == -5 ? 1 : 0, 0);
        due("stand(6, 0)", x.stand(6, 0), -5);
        due("stand(-1, 0)", x.stand(-1, 0), -5);
        Sentences.each("stand(p, 0)", p -> x.stand(p, 0), -5, FAR_OFF);
        due("ahead of what", x.stand(6, 2), -5);
        due("nobody", new FerryForAlone().stand(0, 0), -5);
    }

    @Holds("promise 17: what 0, 1, else -7")
    static void p17What() {
        FerryForAlone x = Check.strand(0, 0);
        due("stand(0, 0)", x.stand(0, 0), 22);
        due("stand(0, 1)", x.stand(0, 1), 2);
        due("stand(0, -1)", x.stand(0, -1), -7);
        due("stand(0, 2)", x.stand(0, 2), -7);
        Sentences.each("stand(0, what)", what -> x.stand(0, what), -7, FAR_OFF);
    }

    @Holds("promise 17: STATE: one is in the boat, behind -7; not one who is over")
    static void p17InTheBoat() {
        FerryForAlone x = three();
        due("stand(0, 0)", x.stand(0, 0), -3);
        due("stand(0, 1)", x.stand(0, 1), -3);
        due("behind what", x.stand(0, 2), -7);
        due("over", x.stand(1, 0), 22);
        x.bay(1, 0);
        due("the ferry being there", x.stand(0, 0), -3);
        x.bay(1, 99);
        due("ahead of a -1 that is an answer", x.stand(0, 1), -3);
        due("of one who is over", x.stand(1, 1), -1);
        x.bay(1, 1);
        x.hour();
        due("not in the boat any more", x.stand(0, 0), 22);
    }

    @Holds("promise 17: not hidden, be one hidden or not")
    static void p17NotHidden() {
        FerryForAlone x = three();
        due("which", x.stand(2, 0), 22);
        due("behind how many", x.stand(2, 1), 6);
        due("it is hidden still", x.told(2, 1), 1);
    }

    @Holds("promise 17: of like ones the first")
    static void p17FirstOfLikeOnes() {
        due("22 .. 41 are like", Check.strand(0, 63).stand(0, 0), 22);
        FerryForAlone x = Check.strand(0, 63);
        x.bay(1, 1);
        due("22 .. 41 are like one hour later", x.stand(0, 0), 22);
    }

    @Holds("promise 17: at place 0 and at place 63, and at no other one")
    static void p17Ends() {
        FerryForAlone x = Check.under("gaps 99*(0<place);likes 0;walks 0;", 0, 9, 0, 30);
        due("which", x.stand(0, 0), 0);
        due("behind how many", x.stand(0, 1), 5);
        FerryForAlone y = Check.under("gaps 99*(place<63);likes 0;walks 0;", 0, 9, 0, 30);
        due("which", y.stand(0, 0), 63);
        due("behind how many", y.stand(0, 1), 5);
        FerryForAlone z = Check.under("gaps 99*(place<64);likes 0;walks 0;", 0, 9, 0, 30);
        due("behind 63 there is none", z.stand(0, 0), -1);
        due("behind 63 there is none", z.stand(0, 1), -1);
    }

    @Holds("promise 17: behind 60 hours; -1: by none")
    static void p17Behind60() {
        FerryForAlone x = Check.strand(0, 5);
        x.bay(1, 58);
        due("which", x.stand(0, 0), 22);
        due("behind how many", x.stand(0, 1), 60);
        x.bay(1, 59);
        due("which", x.stand(0, 0), -1);
        due("behind how many", x.stand(0, 1), -1);
    }

    @Holds("promise 17: behind fewest hours, though places ahead of it are behind more")
    static void p17Fewest() {
        FerryForAlone x = Check.strand(0, 5, 0, 26, 0, 39);
        x.put(1, 1, 1);
        due("22 would do at once", x.stand(0, 0), 22);
        x.put(1, 1, 0);
        due("22 .. 30 are too near to 26, 31 would do at once", x.stand(0, 0), 31);
        due("behind how many", x.stand(0, 1), 2);
        FerryForAlone y = Check.under("gaps 99*(place<60);likes 0;walks 0;", 0, 5, 0, 30);
        due("60, 61 are behind fewer than 62", y.stand(0, 0), 60);
        due("behind how many", y.stand(0, 1), 4);
    }

    // ---- promise 18

    @Holds("promise 18: none such -5, ahead of -7")
    static void p18NoneSuch() {
        FerryForAlone x = six();
        due("apart(5, 1)", x.apart(5, 1), 51);
        due("apart(6, 0)", x.apart(6, 0), -5);
        due("apart(-1, 0)", x.apart(-1, 0), -5);
        Sentences.each("apart(p, 0)", p -> x.apart(p, 0), -5, FAR_OFF);
        due("ahead of what", x.apart(6, 2), -5);
        due("nobody", new FerryForAlone().apart(0, 0), -5);
    }

    @Holds("promise 18: what 0, 1, else -7, ahead of a -1 that is an answer")
    static void p18What() {
        FerryForAlone x = three();
        for (int p = 0; p < 3; p++) {
            int one = p;
            due("apart(" + p + ", 0)", x.apart(p, 0), -1);
            due("apart(" + p + ", -1)", x.apart(p, -1), -7);
            due("apart(" + p + ", 2)", x.apart(p, 2), -7);
            Sentences.each("apart(" + p + ", what)", what -> x.apart(one, what), -7, FAR_OFF);
        }
    }

    @Holds("promise 18: 0 off, if one is alone as it is")
    static void p18NotOff() {
        FerryForAlone x = Check.strand(0, 30, 0, 35);
        due("how many", x.apart(0, 0), 0);
        due("which", x.apart(0, 1), 30);
        x.put(1, 0, 34);
        due("how many", x.apart(0, 0), 1);
        due("which", x.apart(0, 1), 29);
    }

    @Holds("promise 18: one way or the other, of like ones the lesser")
    static void p18BothWays() {
        FerryForAlone x = Check.strand(0, 30, 0, 32);
        due("how many back", x.apart(0, 0), 3);
        due("which", x.apart(0, 1), 27);
        due("how many on", x.apart(1, 0), 3);
        due("which", x.apart(1, 1), 35);
        x.put(1, 0, 30);
        due("how many, either way", x.apart(0, 0), 5);
        due("the lesser", x.apart(0, 1), 25);
        due("the lesser", x.apart(1, 1), 25);
    }

    @Holds("promise 18: there is no place below 0")
    static void p18Below() {
        FerryForAlone x = Check.strand(0, 5, 0, 6);
        due("4 off", x.apart(0, 0), 4);
        due("place 1", x.apart(0, 1), 1);
        x.put(1, 0, 5);
        due("place 0", x.apart(0, 1), 0);
        x.put(0, 0, 3);
        x.put(1, 0, 4);
        due("6 off", x.apart(0, 0), 6);
        due("place 9", x.apart(0, 1), 9);
    }

    @Holds("promise 18: there is no place above 63")
    static void p18Above() {
        FerryForAlone x = Check.strand(0, 59, 0, 57);
        due("3 off", x.apart(0, 0), 3);
        due("place 62", x.apart(0, 1), 62);
        x.put(1, 0, 58);
        due("4 off", x.apart(0, 0), 4);
        due("place 63", x.apart(0, 1), 63);
        x.put(0, 0, 60);
        x.put(1, 0, 59);
        due("6 off", x.apart(0, 0), 6);
        due("place 54", x.apart(0, 1), 54);
    }

    @Holds("promise 18: 63 off, both ways; -1: there is no such place")
    static void p18Farthest() {
        for (int end : new int[] {0, 63}) {
            FerryForAlone x = gaps(63, 0, end, 0, end);
            due("63 off", x.apart(0, 0), 63);
            due("which", x.apart(0, 1), 63 - end);
            x = gaps(64, 0, end, 0, end);
            due("no such place", x.apart(0, 0), -1);
            due("no such place", x.apart(0, 1), -1);
        }
    }

    @Holds("promise 18: -1: one isn't seen: in the boat, over, hidden")
    static void p18NotSeen() {
        FerryForAlone x = three();
        for (int p = 0; p < 3; p++) {
            due("apart(" + p + ", 0)", x.apart(p, 0), -1);
            due("apart(" + p + ", 1)", x.apart(p, 1), -1);
        }
    }

    @Holds("promise 18: alone as one would be there")
    static void p18AsOneWouldBe() {
        FerryForAlone x = Check.under("gaps 9*(place<40);likes 0;walks 0;", 0, 36, 0, 36);
        due("4 off the gap is another one", x.apart(0, 0), 4);
        due("which", x.apart(0, 1), 40);
    }

    // ---- promise 19

    @Holds("promise 19: what 0, 1, else BAD")
    static void p19What() {
        FerryForAlone x = six();
        due("breakwater(-1)", x.breakwater(-1), -2);
        due("breakwater(2)", x.breakwater(2), -2);
        Sentences.each("breakwater", x::breakwater, -2, FAR_OFF);
    }

    @Holds("promise 19: the empty set, if nobody is seen or all are alone")
    static void p19Empty() {
        due("nobody there", new FerryForAlone().breakwater(0), 0);
        due("nobody there", new FerryForAlone().breakwater(1), 0);
        due("nobody seen", three().breakwater(0), 0);
        due("all alone", six().breakwater(0), 0);
        due("all alone", six().breakwater(1), 0);
    }

    @Holds("promise 19: five of six at one place")
    static void p19Most() {
        FerryForAlone x = Check.strand(0, 9, 0, 9, 0, 9, 0, 9, 0, 9, 0, 9);
        due("which", x.breakwater(0), 31);
        due("how many", x.breakwater(1), 5);
    }

    @Holds("promise 19: of fewest, though another set is less as bits")
    static void p19Fewest() {
        FerryForAlone x = Check.strand(0, 10, 0, 18, 0, 14);
        due("the one between, of 2", x.breakwater(0), 4);
        due("how many", x.breakwater(1), 1);
    }

    @Holds("promise 19: of like ones the least as bits")
    static void p19Least() {
        due("of 0 and 1", Check.strand(0, 10, 0, 11).breakwater(0), 1);
        due("of two pairs", Check.strand(0, 10, 0, 11, 0, 30, 0, 31).breakwater(0), 5);
        due("of 4 and 5", Check.strand(0, 0, 0, 10, 0, 20, 0, 30, 0, 40, 0, 41).breakwater(0), 16);
    }

    @Holds("promise 19: of those who are seen")
    static void p19OfTheSeen() {
        FerryForAlone x = Check.strand(0, 10, 0, 10, 0, 10, 0, 10);
        x.put(0, 1, 1);
        x.put(1, 0, -1);
        due("who is hidden or over is in no set", x.breakwater(0), 4);
        due("how many", x.breakwater(1), 1);
    }

    @Holds("promise 19: all others alone, each by the own gap")
    static void p19OwnGap() {
        due("a lamp stays with one", Check.strand(50, 10, 0, 12).breakwater(0), 1);
        due("lamps are alone in any company", Check.strand(50, 10, 50, 10).breakwater(0), 0);
    }

    // ---- promise 20

    @Holds("promise 20: what 0, 1, else BAD, ahead of a -1 that is an answer")
    static void p20What() {
        for (FerryForAlone x : new FerryForAlone[] {six(), new FerryForAlone()}) {
            due("gap(-1)", x.gap(-1), -2);
            due("gap(2)", x.gap(2), -2);
            Sentences.each("gap", x::gap, -2, FAR_OFF);
        }
    }

    @Holds("promise 20: -1: there are no two: nobody, one; who is hidden or at none doesn't count")
    static void p20NoTwo() {
        FerryForAlone[] all = {new FerryForAlone(), Check.strand(0, 5), three()};
        for (FerryForAlone x : all) {
            due("which", x.gap(0), -1);
            due("how far", x.gap(1), -1);
        }
        FerryForAlone x = three();
        x.put(2, 1, 0);
        due("one seen", x.gap(0), -1);
        x.put(1, 0, 9);
        due("two seen", x.gap(0), 12);
    }

    @Holds("promise 20: of two who are seen: neither may be hidden, be it at the lesser or the greater place")
    static void p20BothSeen() {
        for (int p = 0; p < 2; p++) {
            FerryForAlone x = Check.strand(0, 10, 0, 20);
            x.put(p, 1, 1);
            due("which, " + p + " being hidden", x.gap(0), -1);
            due("how far, " + p + " being hidden", x.gap(1), -1);
        }
    }

    @Holds("promise 20: nobody seen between, whatever number is the one between")
    static void p20WhoIsBetween() {
        due("the first", Check.strand(0, 20, 0, 10, 0, 40).gap(0), 2);
        due("the second", Check.strand(0, 10, 0, 20, 0, 40).gap(0), 12);
        due("the last", Check.strand(0, 10, 0, 40, 0, 20).gap(0), 21);
        due("the first, how far", Check.strand(0, 20, 0, 10, 0, 40).gap(1), 20);
    }

    @Holds("promise 20: how far 0 .. 63")
    static void p20HowFar() {
        due("from end to end", Check.strand(0, 0, 0, 63).gap(1), 63);
        due("at one place", Check.strand(0, 9, 0, 9).gap(1), 0);
        due("which", Check.strand(0, 9, 0, 9).gap(0), 1);
    }

    @Holds("promise 20: the one at the lesser place first")
    static void p20LesserPlaceFirst() {
        due("0 and 1", Check.strand(0, 9, 0, 20).gap(0), 1);
        due("1 and 0", Check.strand(0, 20, 0, 9).gap(0), 10);
        due("5 and 4", Check.strand(0, 0, 0, 1, 0, 2, 0, 3, 0, 60, 0, 4).gap(0), 54);
    }

    @Holds("promise 20: at one place the lesser number first")
    static void p20LesserNumberFirst() {
        due("0 and 1, not 1 and 0", Check.strand(0, 9, 0, 9).gap(0), 1);
        FerryForAlone x = Check.strand(0, 0, 0, 9, 0, 9);
        x.put(0, 1, 1);
        due("1 and 2", x.gap(0), 12);
    }

    @Holds("promise 20: nobody seen at a place between theirs; at one of theirs one may be")
    static void p20Between() {
        FerryForAlone x = Check.strand(0, 10, 0, 40, 0, 20);
        due("one between", x.gap(0), 21);
        due("how far", x.gap(1), 20);
        x.put(2, 1, 1);
        due("one hidden between", x.gap(0), 1);
        x.put(2, 1, 0);
        x.put(2, 0, -1);
        due("nobody between", x.gap(1), 30);
        x.put(2, 0, 40);
        due("one at the same place as the other", x.gap(0), 1);
        x.put(2, 0, 10);
        due("one at the same place as the one", x.gap(0), 1);
        x.put(2, 0, 11);
        due("one just between", x.gap(0), 21);
        x.put(2, 0, 39);
        due("one just between", x.gap(0), 2);
    }

    @Holds("promise 20: of like ones the least number")
    static void p20LeastNumber() {
        due("01 and 12", Check.strand(0, 10, 0, 20, 0, 30).gap(0), 1);
        due("21 and 10", Check.strand(0, 30, 0, 20, 0, 10).gap(0), 10);
        due("31, 32, 01, 02", Check.strand(0, 10, 0, 20, 0, 20, 0, 10).gap(0), 1);
        due("20, 21, 30, 31", Check.strand(0, 20, 0, 20, 0, 10, 0, 10).gap(0), 20);
    }

    // ---- promise 21

    @Holds("promise 21: part 0, 1, else NO")
    static void p21Part() {
        FerryForAlone x = Check.strand(0, 3, 0, 4);
        due("middle(0)", x.middle(0), 7);
        due("middle(1)", x.middle(1), 2);
        due("middle(-1)", x.middle(-1), FerryForAlone.NO);
        due("middle(2)", x.middle(2), FerryForAlone.NO);
        Sentences.each("middle", x::middle, FerryForAlone.NO, FAR_OFF);
    }

    @Holds("promise 21: NO: nobody is at any")
    static void p21Nobody() {
        FerryForAlone x = three();
        x.put(2, 0, -1);
        for (int part = 0; part < 2; part++) {
            due("nobody there", new FerryForAlone().middle(part), FerryForAlone.NO);
            due("all in the boat or over", x.middle(part), FerryForAlone.NO);
        }
    }

    @Holds("promise 21: all at 0, all at 63")
    static void p21Ends() {
        FerryForAlone x = Check.strand(0, 0, 0, 0);
        due("above", x.middle(0), 0);
        due("below", x.middle(1), 1);
        x = Check.strand(0, 63, 0, 63, 0, 63, 0, 63, 0, 63, 0, 63);
        due("above", x.middle(0), 63);
        due("below", x.middle(1), 1);
    }

    @Holds("promise 21: in lowest terms")
    static void p21LowestTerms() {
        FerryForAlone x = Check.strand(0, 1, 0, 1, 0, 1, 0, 1, 0, 1, 0, 5);
        due("10 of 6, above", x.middle(0), 5);
        due("10 of 6, below", x.middle(1), 3);
        x.put(5, 0, 6);
        due("11 of 6, above", x.middle(0), 11);
        due("11 of 6, below", x.middle(1), 6);
        x.put(5, 0, 4);
        due("9 of 6, above", x.middle(0), 3);
        due("9 of 6, below", x.middle(1), 2);
    }

    @Holds("promise 21: of all who are at any, hidden ones too")
    static void p21HiddenOnes() {
        FerryForAlone x = three();
        due("above", x.middle(0), 20);
        due("below", x.middle(1), 1);
        x.traveller(0, 3);
        due("above", x.middle(0), 23);
        due("below", x.middle(1), 2);
    }
}
