/** Promises 12 to 15, and the terms' hour. */
public final class HoursTest {
    private static final Check CHECK = new Check();

    public static void main(String[] args) {
        hour();
        howLongOut();
        walking();
        walkingOneByOne();
        walk();
        run();
        runByDigits();
        runPastTheLastHour();
        when();
        whenAtTheBound();
        CHECK.end();
    }

    private static void due(String call, long got, long want) {
        CHECK.due(call, got, want);
    }

    private static void hour() {
        CHECK.about("promise 12");
        FerryForAlone x = Check.strand(0, 31, 0, 0, 0, 2);
        x.put(2, 1, 1);
        due("1st hour()", x.hour(), 0);
        due("out", x.ferry(0), 1);
        due("in the boat", x.ferry(1), 0);
        due("at none", x.told(0, 0), -1);
        due("not over", x.ferry(5), 0);
        due("fetched", x.count(2), 1);
        due("hour", x.count(1), 1);
        due("who is fetched doesn't wait", x.told(0, 2), 0);
        due("waited", x.told(1, 2), 1);
        due("the hidden one waits too", x.told(2, 2), 1);
        due("2nd hour()", x.hour(), -1);
        due("out", x.ferry(0), 0);
        due("in the boat", x.ferry(1), -1);
        due("over", x.ferry(5), 1);
        due("waited", x.told(1, 2), 2);
        due("3rd hour()", x.hour(), 1);
        due("out", x.ferry(0), 4);
        for (int out = 3; out >= 1; out--) {
            due("hour()", x.hour(), -1);
            due("out", x.ferry(0), out);
            due("in the boat", x.ferry(1), 1);
        }
        due("hour()", x.hour(), -1);
        due("in the boat", x.ferry(1), -1);
        due("over", x.ferry(5), 3);
        due("hour() with nobody alone", x.hour(), -1);
        due("the ferry stays", x.ferry(0), 0);
        due("hour", x.count(1), 8);
        due("waited of who was fetched", x.told(1, 2), 2);
        x.put(2, 2, 98);
        x.hour();
        due("waited 99", x.told(2, 2), 99);
        x.hour();
        due("waited 99 at most", x.told(2, 2), 99);
        x.bay(0, 9998);
        due("hour() from 9998", x.hour(), -1);
        due("hour()", x.hour(), -3);
        due("count(1)", x.count(1), 9999);
        x.put(2, 1, 0);
        due("hour() at 9999, one being alone", x.hour(), -3);
        due("nobody was fetched", x.count(2), 2);
    }

    private static void howLongOut() {
        CHECK.about("the terms: how long the ferry is out");
        int[] places = {0, 1, 2, 11, 12, 21, 22, 31, 32, 41, 42, 51, 52, 61, 62, 63};
        int[] out = {4, 4, 3, 3, 2, 2, 1, 1, 1, 1, 2, 2, 3, 3, 4, 4};
        for (int i = 0; i < places.length; i++) {
            FerryForAlone x = Check.strand(0, places[i]);
            x.hour();
            due("out, one fetched from " + places[i], x.ferry(0), out[i]);
        }
    }

    private static void walking() {
        CHECK.about("the terms: walking");
        FerryForAlone x = Check.under("gaps 0;likes 0;walks 9;", 0, 31, 0, 10, 0, 60);
        x.put(2, 1, 1);
        x.hour();
        due("9 on", x.told(1, 0), 19);
        due("the hidden one, to the bound", x.told(2, 0), 63);
        due("who is fetched stays at none", x.told(0, 0), -1);
        x = Check.under("gaps 99;likes 0;walks 0-9;", 0, 31, 0, 5);
        x.hour();
        due("9 back", x.told(0, 0), 22);
        due("back to the bound", x.told(1, 0), 0);
        x = Check.under("gaps 99;likes 0;walks waited*10+hour;", 0, 10, 0, 20);
        x.put(1, 2, 2);
        x.bay(0, 3);
        x.hour();
        due("by the hour that is", x.told(0, 0), 13);
        due("by how long it was waited till then", x.told(1, 0), 43);
        x = Check.strand(49, 20, 49, 21);
        x.hour();
        due("dogs walk on in even hours", x.told(0, 0), 29);
        x.hour();
        due("and back in odd ones", x.told(0, 0), 20);
    }

    private static void walkingOneByOne() {
        CHECK.about("the terms: all told as it is then");
        FerryForAlone x = Check.strand(49, 10, 20, 12);
        due("nobody is alone at first", x.hour(), -1);
        due("the first is ahead", x.told(0, 0), 19);
        due("so the other was alone and went one on", x.told(1, 0), 13);
        x = Check.strand(20, 12, 49, 10);
        x.hour();
        due("not yet alone, numbered the other way round", x.told(0, 0), 12);
        x = Check.under("gaps 0;likes 0-place;walks fetched*10+seen;", 0, 30, 0, 31, 0, 50);
        due("hour()", x.hour(), 0);
        due("one is fetched, two are still seen", x.told(1, 0), 43);
        due("for the last one too", x.told(2, 0), 62);
    }

    private static void walk() {
        CHECK.about("promise 13");
        FerryForAlone x = Check.strand(0, 10, 0, 31);
        due("walk(0, 5)", x.walk(0, 5), 15);
        due("walk(0, -6)", x.walk(0, -6), 9);
        due("truly", x.told(0, 0), 9);
        due("walk(0, 63)", x.walk(0, 63), 63);
        due("walk(0, 0)", x.walk(0, 0), 63);
        due("walk(0, -63)", x.walk(0, -63), 0);
        due("walk(0, -1)", x.walk(0, -1), 0);
        due("walk(0, 64)", x.walk(0, 64), -7);
        due("walk(0, -64)", x.walk(0, -64), -7);
        due("walk(2, 0)", x.walk(2, 0), -5);
        due("walk(-1, 0)", x.walk(-1, 0), -5);
        due("walk(2, 64)", x.walk(2, 64), -5);
        due("waited", x.told(0, 2), 0);
        due("hour", x.count(1), 0);
        x.put(0, 1, 1);
        due("walk(0, 1), hidden", x.walk(0, 1), 1);
        x.hour();
        due("walk(1, 1), in the boat", x.walk(1, 1), -3);
        due("walk(1, 64), in the boat", x.walk(1, 64), -7);
        x.hour();
        due("walk(1, 1), over", x.walk(1, 1), -3);
        due("still at none", x.told(1, 0), -1);
    }

    private static void run() {
        CHECK.about("promise 14");
        FerryForAlone x = Check.strand(0, 31, 0, 0);
        due("run(0, 0)", x.run(0, 0), 0);
        due("run(0, 1)", x.run(0, 1), 0);
        due("run(0, 2)", x.run(0, 2), 0);
        due("run(0, 10)", x.run(0, 10), 31);
        due("run(1, 0)", x.run(1, 0), 1);
        due("run(1, 1)", x.run(1, 1), 1);
        due("run(1, 10)", x.run(1, 10), -1);
        due("run(2, 2)", x.run(2, 2), 1);
        due("run(1, 2)", x.run(1, 2), 0);
        due("run(3, 0)", x.run(3, 0), 2);
        due("run(3, 1)", x.run(3, 1), 12);
        due("run(2, 11)", x.run(2, 11), 0);
        due("run(3, 11)", x.run(3, 11), -1);
        due("run(60, 20)", x.run(60, 20), 0);
        due("run(1, 21)", x.run(1, 21), 1);
        due("run(60, 21)", x.run(60, 21), 2);
        due("run(6, 2)", x.run(6, 2), 1);
        due("run(7, 2)", x.run(7, 2), 3);
        due("run(60, 2)", x.run(60, 2), 3);
        for (int n : new int[] {-1, 61, Integer.MIN_VALUE, Integer.MAX_VALUE}) {
            due("run(" + n + ", 0)", x.run(n, 0), -2);
        }
        for (int what : new int[] {-1, 3, 9, 12, 15, 16, 19, 22, 26, Integer.MIN_VALUE, Integer.MAX_VALUE}) {
            due("run(1, " + what + ")", x.run(1, what), -2);
        }
        due("the hour stays", x.count(1), 0);
        due("one stays", x.told(0, 0), 31);
        due("how long one waited stays", x.told(1, 2), 0);
        due("the ferry stays", x.ferry(0), 0);
        due("how many were fetched stays", x.count(2), 0);
    }

    private static void runByDigits() {
        CHECK.about("promise 14, six of them");
        FerryForAlone x = Check.under("gaps 0;likes waited;walks 0;", 0, 31, 0, 31, 0, 31, 0, 31, 0, 31, 0, 31);
        for (int p = 0; p < 6; p++) {
            x.put(p, 2, 10 * p);
        }
        due("run(60, 1)", x.run(60, 1), 654321);
        due("run(11, 1)", x.run(11, 1), 654321);
        due("run(10, 1)", x.run(10, 1), 65432);
        due("run(60, 0)", x.run(60, 0), 6);
        due("run(11, 2)", x.run(11, 2), 62);
        due("run(12, 2)", x.run(12, 2), 63);
    }

    private static void runPastTheLastHour() {
        CHECK.about("promise 14, past the last hour");
        FerryForAlone x = Check.strand(0, 31, 34, 0);
        x.bay(0, 9999);
        due("run(3, 1)", x.run(3, 1), 12);
        x = Check.strand(49, 20, 49, 21);
        x.bay(0, 9999);
        due("run(1, 10), 9999 is odd", x.run(1, 10), 11);
        due("run(2, 10), 10000 is even", x.run(2, 10), 20);
    }

    private static void when() {
        CHECK.about("promise 15");
        FerryForAlone x = Check.strand(0, 31, 0, 0);
        due("when(0, 0)", x.when(0, 0), 2);
        due("when(1, 0)", x.when(1, 0), 7);
        due("when(0, 1)", x.when(0, 1), 0);
        due("when(0, 2)", x.when(0, 2), 7);
        due("when(99, 2)", x.when(99, 2), 7);
        due("when(-1, 2)", x.when(-1, 2), 7);
        due("when(2, 0)", x.when(2, 0), -5);
        due("when(2, 1)", x.when(2, 1), -5);
        due("when(-1, 0)", x.when(-1, 0), -5);
        due("when(0, 3)", x.when(0, 3), -7);
        due("when(0, -1)", x.when(0, -1), -7);
        due("when(2, 3)", x.when(2, 3), -7);
        x.put(1, 0, 33);
        due("when(0, 1), never alone", x.when(0, 1), -1);
        due("when(0, 0), never over", x.when(0, 0), -1);
        due("when(0, 2), nobody being alone", x.when(0, 2), 0);
        x.bay(1, 3);
        due("when(0, 2), the ferry being out", x.when(0, 2), 3);
        x.put(0, 0, -1);
        due("when(0, 0), over now", x.when(0, 0), 0);
        due("when(0, 1), over", x.when(0, 1), -1);
        x = Check.strand(49, 10, 0, 12);
        due("when(1, 1), alone later", x.when(1, 1), 1);
        due("nothing has changed", x.count(1), 0);
    }

    private static void whenAtTheBound() {
        CHECK.about("promise 15, 60 hours");
        FerryForAlone x = Check.strand(0, 31);
        x.bay(1, 58);
        due("over behind 60", x.when(0, 0), 60);
        x.bay(1, 59);
        due("over behind 61", x.when(0, 0), -1);
        x.put(0, 0, -1);
        x.bay(1, 60);
        due("the ferry is back behind 60", x.when(0, 2), 60);
        x.bay(1, 61);
        due("the ferry is back behind 61", x.when(0, 2), -1);
    }
}
