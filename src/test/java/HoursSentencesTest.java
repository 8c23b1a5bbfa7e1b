/** Promises 12 to 15, sentence by sentence, at their bounds. */
public final class HoursSentencesTest {
    private static final int[] FAR_OFF = {Integer.MIN_VALUE, -1000, 1000, Integer.MAX_VALUE};

    private HoursSentencesTest() {
    }

    public static void main(String[] args) throws ReflectiveOperationException {
        Sentences.run(HoursSentencesTest.class, 12, 13, 14, 15);
    }

    private static void due(String call, long got, long want) {
        Sentences.due(call, got, want);
    }

    private static FerryForAlone six() {
        return Check.strand(0, 1, 0, 11, 0, 21, 0, 31, 0, 41, 0, 51);
    }

    /** One of 0, who is IN THE BOAT; one of 1, who is OVER; one of 2, who is HIDDEN, AT 20. */
    private static FerryForAlone three() {
        FerryForAlone x = Check.strand(0, 0, 0, 10, 0, 20);
        x.put(1, 0, -1);
        x.put(2, 1, 1);
        x.hour();
        return x;
    }

    // ---- promise 12

    @Holds("promise 12: who is fetched in it, the first and the last; -1: nobody")
    static void p12Who() {
        due("nobody there", new FerryForAlone().hour(), -1);
        due("of 0", six().hour(), 0);
        FerryForAlone x = six();
        x.put(5, 2, 1);
        due("of 5", x.hour(), 5);
        due("the ferry is out", x.hour(), -1);
        due("nobody alone", Check.strand(0, 1, 0, 2).hour(), -1);
    }

    @Holds("promise 12: truly")
    static void p12Truly() {
        FerryForAlone x = six();
        x.hour();
        due("hour", x.count(1), 1);
        due("fetched", x.count(2), 1);
        due("at none", x.told(0, 0), -1);
        due("waited", x.told(1, 2), 1);
    }

    @Holds("promise 12: STATE: hour is 9999, not 9998")
    static void p12LastHour() {
        FerryForAlone x = six();
        x.bay(0, 9998);
        due("at 9998", x.hour(), 0);
        due("hour", x.count(1), 9999);
        due("at 9999", x.hour(), -3);
        x.bay(0, 9998);
        due("at 9998 again", x.hour(), -1);
    }

    @Holds("promise 12: STATE at 9999, also if nobody would be fetched, or the ferry is out")
    static void p12LastHourAnyhow() {
        FerryForAlone x = new FerryForAlone();
        x.bay(0, 9999);
        due("nobody there", x.hour(), -3);
        x.bay(1, 5);
        due("out", x.hour(), -3);
        due("out for as long as it was", x.ferry(0), 5);
        x.bay(1, 0);
        x.traveller(0, 31);
        due("one alone", x.hour(), -3);
        due("still there", x.told(0, 0), 31);
        due("waited", x.told(0, 2), 0);
        due("hour", x.count(1), 9999);
        due("fetched", x.count(2), 0);
    }

    // ---- promise 13

    @Holds("promise 13: so far on, -63 .. 63")
    static void p13Far() {
        FerryForAlone x = Check.strand(0, 0);
        due("walk(0, 63)", x.walk(0, 63), 63);
        due("walk(0, -63)", x.walk(0, -63), 0);
        due("walk(0, 5)", x.walk(0, 5), 5);
        due("walk(0, -2)", x.walk(0, -2), 3);
        due("walk(0, 0)", x.walk(0, 0), 3);
    }

    @Holds("promise 13: -7: far below -63 or above 63")
    static void p13TooFar() {
        FerryForAlone x = Check.strand(0, 30);
        due("walk(0, 64)", x.walk(0, 64), -7);
        due("walk(0, -64)", x.walk(0, -64), -7);
        Sentences.each("walk(0, far)", far -> x.walk(0, far), -7, FAR_OFF);
        due("place", x.told(0, 0), 30);
    }

    @Holds("promise 13: a place 0 .. 63, else the bound")
    static void p13Bound() {
        FerryForAlone x = Check.strand(0, 60, 0, 3);
        due("to 63", x.walk(0, 3), 63);
        due("1 too far", x.walk(0, 1), 63);
        due("63 too far", x.walk(0, 63), 63);
        due("to 0", x.walk(1, -3), 0);
        due("1 too far", x.walk(1, -1), 0);
        due("63 too far", x.walk(1, -63), 0);
    }

    @Holds("promise 13: truly, and nothing else than the place: which")
    static void p13Truly() {
        FerryForAlone x = three();
        due("of a hidden one", x.walk(2, 7), 27);
        due("place", x.told(2, 0), 27);
        due("waited", x.told(2, 2), 1);
        due("hour", x.count(1), 1);
        due("out", x.ferry(0), 4);
    }

    @Holds("promise 13: none such -5, ahead of -7")
    static void p13NoneSuch() {
        FerryForAlone x = six();
        due("walk(5, 1)", x.walk(5, 1), 52);
        due("walk(6, 1)", x.walk(6, 1), -5);
        due("walk(-1, 1)", x.walk(-1, 1), -5);
        Sentences.each("walk(p, 1)", p -> x.walk(p, 1), -5, FAR_OFF);
        due("ahead of far", x.walk(6, 64), -5);
        due("nobody", new FerryForAlone().walk(0, 0), -5);
    }

    @Holds("promise 13: STATE: at none, in the boat and over; behind -7")
    static void p13AtNone() {
        FerryForAlone x = three();
        due("in the boat", x.walk(0, 1), -3);
        due("over", x.walk(1, 1), -3);
        due("over, 0 on", x.walk(1, 0), -3);
        due("in the boat, too far", x.walk(0, 64), -7);
        due("over, too far", x.walk(1, -64), -7);
        due("still in the boat", x.ferry(1), 0);
        due("still over", x.ferry(5), 2);
    }

    // ---- promise 14

    @Holds("promise 14: n 0 .. 60, else BAD")
    static void p14Hours() {
        FerryForAlone x = Check.strand(0, 30, 0, 31);
        due("run(0, 20)", x.run(0, 20), 0);
        due("run(1, 20)", x.run(1, 20), 1);
        due("run(60, 20)", x.run(60, 20), 60);
        for (int what : new int[] {0, 1, 2, 10, 20}) {
            due("run(-1, " + what + ")", x.run(-1, what), -2);
            due("run(61, " + what + ")", x.run(61, what), -2);
            Sentences.each("run(n, " + what + ")", n -> x.run(n, what), -2, FAR_OFF);
        }
    }

    @Holds("promise 14: the 60th hour is one of them, the 59th hour's end is behind 59")
    static void p14TheLastOne() {
        FerryForAlone x = Check.strand(0, 31);
        x.bay(1, 59);
        due("how many in 59", x.run(59, 0), 0);
        due("how many in 60", x.run(60, 0), 1);
        due("who in 60", x.run(60, 1), 1);
        x.bay(1, 58);
        due("over behind 59", x.run(59, 2), 0);
        due("over behind 60", x.run(60, 2), 1);
    }

    @Holds("promise 14: in no hour nobody is fetched, and all is as it is")
    static void p14NoHour() {
        FerryForAlone x = three();
        due("how many", x.run(0, 0), 0);
        due("who", x.run(0, 1), 0);
        due("who are over", x.run(0, 2), 2);
        due("place of who is in the boat", x.run(0, 10), -1);
        due("place of who is over", x.run(0, 11), -1);
        due("place", x.run(0, 12), 20);
        due("waited", x.run(0, 22), 1);
    }

    @Holds("promise 14: how many are fetched: none, all six")
    static void p14HowMany() {
        due("nobody there", new FerryForAlone().run(60, 0), 0);
        due("nobody alone", Check.strand(0, 30, 0, 31).run(60, 0), 0);
        due("all six", six().run(60, 0), 6);
        FerryForAlone x = Check.strand(0, 31);
        x.hour();
        due("not who was fetched ahead", x.run(60, 0), 0);
    }

    @Holds("promise 14: who, as digits, 1 more than each, the first the highest; none: 0")
    static void p14Who() {
        due("nobody there", new FerryForAlone().run(60, 1), 0);
        due("nobody alone", Check.strand(0, 30, 0, 31).run(60, 1), 0);
        due("all six", six().run(60, 1), 123456);
        FerryForAlone x = six();
        for (int p = 0; p < 6; p++) {
            x.put(p, 2, 10 * p);
        }
        due("all six, the other way round", x.run(60, 1), 654321);
        due("one", x.run(1, 1), 6);
    }

    @Holds("promise 14: who are over then: not who is in the boat then, but who was over ahead")
    static void p14Over() {
        FerryForAlone x = Check.strand(0, 0, 0, 31);
        x.put(1, 0, -1);
        due("behind 0", x.run(0, 2), 2);
        due("behind 1", x.run(1, 2), 2);
        due("behind 4", x.run(4, 2), 2);
        due("behind 5", x.run(5, 2), 3);
        due("nobody there", new FerryForAlone().run(60, 2), 0);
        FerryForAlone all = six();
        all.put(5, 0, -1);
        due("all six", all.run(60, 2), 63);
    }

    @Holds("promise 14: the place of who is numbered what less 10, 10 .. 15; -1")
    static void p14Place() {
        FerryForAlone x = six();
        for (int p = 0; p < 6; p++) {
            due("run(0, " + (10 + p) + ")", x.run(0, 10 + p), 10 * p + 1);
        }
        due("in the boat then", x.run(1, 10), -1);
        due("over then", x.run(60, 15), -1);
        due("at 0", Check.strand(0, 0, 0, 1).run(1, 10), 0);
        due("at 63", Check.strand(0, 63, 0, 62).run(60, 10), 63);
    }

    @Holds("promise 14: waited of who is numbered what less 20, 20 .. 25; 99 at most")
    static void p14Waited() {
        FerryForAlone x = six();
        for (int p = 0; p < 6; p++) {
            x.put(p, 2, 50 + p);
            due("run(0, " + (20 + p) + ")", x.run(0, 20 + p), 50 + p);
        }
        FerryForAlone y = Check.strand(0, 30, 0, 31);
        y.put(1, 2, 39);
        due("39 and 59", y.run(59, 21), 98);
        due("39 and 60", y.run(60, 21), 99);
        y.put(1, 2, 40);
        due("99 at most", y.run(60, 21), 99);
    }

    @Holds("promise 14: BAD: what is none of 0 .. 2, 10 .. 15, 20 .. 25")
    static void p14What() {
        FerryForAlone x = six();
        for (int what = -3; what < 40; what++) {
            boolean good = what >= 0 && what <= 2 || what >= 10 && what <= 15 || what >= 20 && what <= 25;
            due("run(0, " + what + ") is BAD", x.run(0, what) == -2 ? 1 : 0, good ? 0 : 1);
        }
        Sentences.each("run(0, what)", what -> x.run(0, what), -2, FAR_OFF);
        Sentences.each("run(0, what)", what -> x.run(0, what), -2, Integer.MIN_VALUE + 9, Integer.MIN_VALUE + 19);
    }

    @Holds("promise 14: BAD: the number of one who is none")
    static void p14NoneSuch() {
        FerryForAlone x = Check.strand(0, 5, 0, 6);
        due("run(0, 11)", x.run(0, 11), 6);
        due("run(0, 12)", x.run(0, 12), -2);
        due("run(0, 21)", x.run(0, 21), 0);
        due("run(0, 22)", x.run(0, 22), -2);
        FerryForAlone nobody = new FerryForAlone();
        due("run(0, 10)", nobody.run(0, 10), -2);
        due("run(0, 20)", nobody.run(0, 20), -2);
    }

    @Holds("promise 14: BAD ahead of a -1 that is an answer")
    static void p14BadAheadOfNone() {
        FerryForAlone x = three();
        due("run(61, 11)", x.run(61, 11), -2);
        due("run(-1, 10)", x.run(-1, 10), -2);
    }

    // ---- promise 15

    @Holds("promise 15: what 0 .. 2, else -7")
    static void p15What() {
        FerryForAlone x = Check.strand(0, 31);
        due("when(0, 0)", x.when(0, 0), 2);
        due("when(0, 1)", x.when(0, 1), 0);
        due("when(0, 2)", x.when(0, 2), 2);
        due("when(0, -1)", x.when(0, -1), -7);
        due("when(0, 3)", x.when(0, 3), -7);
        Sentences.each("when(0, what)", what -> x.when(0, what), -7, FAR_OFF);
    }

    @Holds("promise 15: none such -5, behind -7")
    static void p15NoneSuch() {
        FerryForAlone x = six();
        for (int what = 0; what < 2; what++) {
            int asked = what;
            due("when(5, " + what + ") is refused", x.when(5, what) == -5 ? 1 : 0, 0);
            due("when(6, " + what + ")", x.when(6, what), -5);
            due("when(-1, " + what + ")", x.when(-1, what), -5);
            Sentences.each("when(p, " + what + ")", p -> x.when(p, asked), -5, FAR_OFF);
        }
        due("behind what", x.when(6, 3), -7);
        due("behind what", x.when(-1, -1), -7);
        due("nobody", new FerryForAlone().when(0, 0), -5);
    }

    @Holds("promise 15: the ferry isn't out, and nobody is alone: p does not matter")
    static void p15AnyOne() {
        FerryForAlone x = Check.strand(0, 31);
        Sentences.each("when(p, 2)", p -> x.when(p, 2), 2, -1, 0, 1, 6, Integer.MIN_VALUE, Integer.MAX_VALUE);
        due("nobody there", new FerryForAlone().when(0, 2), 0);
        due("nobody there", new FerryForAlone().when(-9, 2), 0);
    }

    @Holds("promise 15: behind 0 hours: it is so now")
    static void p15Now() {
        FerryForAlone x = Check.strand(0, 31, 0, 10, 0, 12);
        x.put(0, 0, -1);
        due("over", x.when(0, 0), 0);
        due("nobody alone", x.when(0, 2), 0);
        x.put(2, 0, 15);
        due("alone", x.when(1, 1), 0);
    }

    @Holds("promise 15: over behind 60 hours; -1: not by then")
    static void p15OverBehind60() {
        FerryForAlone x = Check.strand(0, 31);
        x.bay(1, 58);
        due("60", x.when(0, 0), 60);
        x.bay(1, 59);
        due("61", x.when(0, 0), -1);
    }

    @Holds("promise 15: alone behind 60 hours; -1: not by then")
    static void p15AloneBehind60() {
        FerryForAlone x = Check.under("gaps 9*(hour<60);likes 0;walks 0;", 0, 30, 0, 31);
        due("60", x.when(1, 1), 60);
        x = Check.under("gaps 9*(hour<61);likes 0;walks 0;", 0, 30, 0, 31);
        due("61", x.when(1, 1), -1);
    }

    @Holds("promise 15: the ferry back and nobody alone behind 60 hours; -1: not by then")
    static void p15BackBehind60() {
        FerryForAlone x = new FerryForAlone();
        x.bay(1, 60);
        due("60", x.when(0, 2), 60);
        x.bay(1, 61);
        due("61", x.when(0, 2), -1);
    }

    @Holds("promise 15: neither the ferry being there alone will do, nor nobody's being alone alone")
    static void p15Both() {
        FerryForAlone x = Check.strand(0, 30, 0, 31);
        due("both", x.when(0, 2), 0);
        x.bay(1, 1);
        due("out, nobody alone", x.when(0, 2), 1);
        FerryForAlone y = Check.strand(0, 31);
        due("there, one alone", y.when(0, 2), 2);
    }

    @Holds("promise 15: for the first time, be it otherwise later")
    static void p15FirstTime() {
        FerryForAlone x = Check.under("gaps 9*(1-(hour=3));likes 0;walks 0;", 0, 30, 0, 31);
        x.bay(1, 9);
        due("alone in hour 3 alone", x.when(0, 1), 3);
        FerryForAlone y = Check.strand(0, 30);
        y.hour();
        due("who is in the boat is over for good", y.when(0, 0), 1);
    }

    @Holds("promise 15: -1: one who is over is never alone, one who is never alone is never over")
    static void p15Never() {
        FerryForAlone x = three();
        due("who is over", x.when(1, 1), -1);
        due("who is in the boat", x.when(0, 1), -1);
        due("who is hidden, alone", x.when(2, 1), -1);
        due("who is hidden, over", x.when(2, 0), -1);
    }

    @Holds("promise 15: who is in the boat is over when the ferry is back")
    static void p15InTheBoat() {
        due("out for 4", three().when(0, 0), 4);
    }
}
