/** Promises 1 to 11, but for what a text says: that stands in TextTest. */
public final class PeopleTest {
    private static final Check CHECK = new Check();

    public static void main(String[] args) {
        newObject();
        count();
        bay();
        ferry();
        alone();
        feed();
        force();
        asks();
        traveller();
        put();
        told();
        toldByKind();
        CHECK.end();
    }

    private static void due(String call, long got, long want) {
        CHECK.due(call, got, want);
    }

    private static void newObject() {
        CHECK.about("promise 1");
        FerryForAlone x = new FerryForAlone();
        int[] counts = {0, 0, 0, 1, 0, 0};
        for (int what = 0; what < counts.length; what++) {
            due("count(" + what + ")", x.count(what), counts[what]);
        }
        int[] ferry = {0, -1, -1, 0, 0, 0};
        for (int what = 0; what < ferry.length; what++) {
            due("ferry(" + what + ")", x.ferry(what), ferry[what]);
        }
        due("told(0, 0)", x.told(0, 0), -5);
        due("back()", x.back(), FerryForAlone.STATE);
        for (int s = 0; s < 4; s++) {
            due("judge(" + s + ")", x.judge(s), -11);
        }
    }

    private static void count() {
        CHECK.about("promise 2");
        FerryForAlone x = Check.strand(0, 31, 0, 0);
        Check.read(x, "gaps 1;likes 1;walks 1;");
        x.force(1);
        x.hour();
        Check.feed(x, "gaps ");
        due("count(0)", x.count(0), 2);
        due("count(1)", x.count(1), 1);
        due("count(2)", x.count(2), 1);
        due("count(3)", x.count(3), 2);
        due("count(4)", x.count(4), 1);
        due("count(5)", x.count(5), 5);
        due("count(6)", x.count(6), -2);
        due("count(-1)", x.count(-1), -2);
    }

    private static void bay() {
        CHECK.about("promise 3");
        FerryForAlone x = Check.strand(0, 31);
        due("bay(0, 9999)", x.bay(0, 9999), 0);
        due("bay(0, 0)", x.bay(0, 0), 9999);
        due("bay(0, 10000)", x.bay(0, 10000), -2);
        due("bay(0, -1)", x.bay(0, -1), -2);
        due("bay(1, 99)", x.bay(1, 99), 0);
        due("bay(1, 0)", x.bay(1, 0), 99);
        due("bay(1, 100)", x.bay(1, 100), -2);
        due("bay(1, -1)", x.bay(1, -1), -2);
        due("bay(2, 0)", x.bay(2, 0), -2);
        due("bay(-1, 0)", x.bay(-1, 0), -2);
        due("count(1)", x.count(1), 0);
        due("ferry(0)", x.ferry(0), 0);
        due("hour()", x.hour(), 0);
        due("bay(1, 0) with one in the boat", x.bay(1, 0), 1);
        due("who stays in the boat", x.ferry(1), 0);
        due("who stays is not over", x.ferry(5), 0);
        due("hour() with nobody to fetch", x.hour(), -1);
        due("who still stays", x.ferry(1), 0);
        x.traveller(0, 0);
        due("hour() with another one", x.hour(), 1);
        due("the boat", x.ferry(1), 1);
        due("the first is over by that", x.ferry(5), 1);
    }

    private static void ferry() {
        CHECK.about("promise 4");
        FerryForAlone x = Check.strand(0, 10, 0, 20, 0, 22);
        due("ferry(3)", x.ferry(3), 1);
        due("ferry(4)", x.ferry(4), 7);
        due("ferry(2)", x.ferry(2), 0);
        x.put(2, 1, 1);
        due("ferry(4), one hidden", x.ferry(4), 3);
        due("ferry(3), one hidden", x.ferry(3), 3);
        due("ferry(2), of like ones the first", x.ferry(2), 0);
        x.put(1, 2, 5);
        due("ferry(2), one liked more", x.ferry(2), 1);
        x.bay(1, 5);
        due("ferry(0)", x.ferry(0), 5);
        due("ferry(2), the ferry being out", x.ferry(2), 1);
        x.put(0, 0, -1);
        due("ferry(5)", x.ferry(5), 1);
        due("ferry(6)", x.ferry(6), -7);
        due("ferry(-1)", x.ferry(-1), -7);
        due("a likes below 0 is chosen too", Check.under("gaps 5;likes -9;walks 0;", 0, 3).ferry(2), 0);
    }

    private static void alone() {
        CHECK.about("the terms: alone");
        FerryForAlone x = Check.strand(0, 10, 0, 15);
        due("as far as the gap", x.ferry(3), 3);
        x.walk(1, -1);
        due("nearer than the gap", x.ferry(3), 0);
        x.put(1, 1, 1);
        due("the near one is hidden, and so not alone itself", x.ferry(3), 1);
        x = Check.strand(0, 10, 10, 12);
        due("each by the own gap", x.ferry(3), 2);
        x = Check.strand(50, 10, 50, 10);
        due("a gap of 0 at one place", x.ferry(3), 3);
    }

    private static void feed() {
        CHECK.about("promise 5");
        FerryForAlone x = new FerryForAlone();
        due("feed 1", x.feed(1, 'g', 0, 0, 0, 0), 1);
        due("feed 2", x.feed(2, 'a', 'p', 0, 0, 0), 3);
        due("feed 3", x.feed(3, 's', ' ', '5', 0, 0), 6);
        due("feed 4", x.feed(4, ';', 'l', 'i', 'k', 0), 10);
        due("feed 5", x.feed(5, 'e', 's', '6', ';', 'w'), 15);
        due("feed 5", x.feed(5, 'a', 'l', 'k', 's', '7'), 20);
        due("feed 1", x.feed(1, ';', 0, 0, 0, 0), 21);
        due("the bytes are behind one another", x.text(), 1);
        x.traveller(0, 0);
        x.force(1);
        due("asks(0, 0)", x.asks(0, 0), 5);
        due("asks(1, 0)", x.asks(1, 0), 6);
        due("asks(2, 0)", x.asks(2, 0), 7);
        for (int n : new int[] {0, -1, 6}) {
            due("feed(" + n + ")", x.feed(n, 1, 1, 1, 1, 1), -2);
        }
        for (int bad : new int[] {-1, 256}) {
            due("a", x.feed(1, bad, 0, 0, 0, 0), -2);
            due("b", x.feed(1, 0, bad, 0, 0, 0), -2);
            due("c", x.feed(1, 0, 0, bad, 0, 0), -2);
            due("d", x.feed(1, 0, 0, 0, bad, 0), -2);
            due("e", x.feed(1, 0, 0, 0, 0, bad), -2);
        }
        due("count(5) after what was refused", x.count(5), 0);
        for (int i = 1; i <= 31; i++) {
            due("feed the " + i + "th five", x.feed(5, 0, 255, 0, 255, 0), 5 * i);
        }
        due("four more", x.feed(4, 1, 1, 1, 1, 0), 159);
        due("two have no room", x.feed(2, 1, 1, 0, 0, 0), -4);
        due("none came", x.count(5), 159);
        due("one has", x.feed(1, 1, 0, 0, 0, 0), 160);
        due("no room at all", x.feed(1, 1, 0, 0, 0, 0), -4);
        due("bad ahead of full", x.feed(1, 256, 0, 0, 0, 0), -2);
        due("bad n ahead of full", x.feed(6, 0, 0, 0, 0, 0), -2);
    }

    private static void force() {
        CHECK.about("promise 7");
        FerryForAlone x = Check.strand(0, 0);
        due("force(1) without such a text", x.force(1), -2);
        Check.read(x, "gaps 7;likes 0;walks 0;");
        due("force(1)", x.force(1), 0);
        due("the gap by it", x.told(0, 5), 7);
        due("force(2)", x.force(2), -2);
        due("force(-1)", x.force(-1), -2);
        due("count(4)", x.count(4), 1);
        due("force(0)", x.force(0), 1);
        due("the gap by the first", x.told(0, 5), 5);
    }

    private static void asks() {
        CHECK.about("promise 8");
        FerryForAlone x = Check.under("gaps 150;likes 0-100;walks 100;", 59, 0);
        due("gaps, the most, of any kind", x.asks(0, 0), 99);
        due("likes, the least", x.asks(1, 0), -99);
        due("walks, the most", x.asks(2, 0), 99);
        x = Check.under("gaps -1;likes 100;walks -100;", 0, 0);
        due("gaps, the least", x.asks(0, 0), 0);
        due("likes, the most", x.asks(1, 0), 99);
        due("walks, the least", x.asks(2, 0), -99);
        due("asks(3, 0)", x.asks(3, 0), -1000);
        due("asks(-1, 0)", x.asks(-1, 0), -1000);
        due("asks(0, 1)", x.asks(0, 1), -1000);
        due("asks(0, -1)", x.asks(0, -1), -1000);
    }

    private static void traveller() {
        CHECK.about("promise 9");
        FerryForAlone x = new FerryForAlone();
        due("traveller(59, 63)", x.traveller(59, 63), 0);
        due("kind", x.told(0, 3), 5);
        due("more", x.told(0, 4), 9);
        due("place", x.told(0, 0), 63);
        due("not hidden", x.told(0, 1), 0);
        due("waited", x.told(0, 2), 0);
        due("traveller(0, 0)", x.traveller(0, 0), 1);
        due("traveller(60, 0)", x.traveller(60, 0), -2);
        due("traveller(-1, 0)", x.traveller(-1, 0), -2);
        due("traveller(0, 64)", x.traveller(0, 64), -2);
        due("traveller(0, -1)", x.traveller(0, -1), -2);
        due("count(0)", x.count(0), 2);
        for (int p = 2; p < 6; p++) {
            due("traveller(10, 5)", x.traveller(10, 5), p);
        }
        due("full", x.traveller(0, 0), -4);
        due("bad ahead of full", x.traveller(60, 0), -2);
    }

    private static void put() {
        CHECK.about("promise 10");
        FerryForAlone x = Check.strand(0, 31, 0, 0);
        due("put(1, 0, 63)", x.put(1, 0, 63), 0);
        due("put(1, 0, 64)", x.put(1, 0, 64), -7);
        due("put(1, 0, -2)", x.put(1, 0, -2), -7);
        due("put(1, 0, -1)", x.put(1, 0, -1), 63);
        due("it is over", x.ferry(5), 2);
        due("put(1, 0, 0)", x.put(1, 0, 0), -1);
        due("it is there again", x.told(1, 0), 0);
        due("put(1, 1, 1)", x.put(1, 1, 1), 0);
        due("put(1, 1, 2)", x.put(1, 1, 2), -7);
        due("put(1, 1, -1)", x.put(1, 1, -1), -7);
        due("it is hidden", x.told(1, 1), 1);
        due("put(1, 1, 0)", x.put(1, 1, 0), 1);
        due("put(1, 2, 99)", x.put(1, 2, 99), 0);
        due("put(1, 2, 100)", x.put(1, 2, 100), -7);
        due("put(1, 2, -1)", x.put(1, 2, -1), -7);
        due("put(1, 2, 0)", x.put(1, 2, 0), 99);
        due("put(1, 3, 0)", x.put(1, 3, 0), -7);
        due("put(1, -1, 0)", x.put(1, -1, 0), -7);
        due("put(2, 0, 0)", x.put(2, 0, 0), -5);
        due("none such ahead of what", x.put(2, 9, 0), -5);
        due("put(-1, 0, 0)", x.put(-1, 0, 0), -5);
        x.hour();
        due("one in the boat", x.put(0, 0, 5), -7);
        due("one in the boat, not even over", x.put(0, 0, -1), -7);
        due("waited of one in the boat", x.put(0, 2, 4), 0);
        due("and back", x.put(0, 2, 0), 4);
        x.hour();
        due("one who is over", x.put(0, 0, 5), -1);
        due("there again", x.ferry(5), 0);
    }

    private static void told() {
        CHECK.about("promise 11");
        FerryForAlone x = Check.strand(0, 10, 12, 13, 23, 40);
        x.put(1, 2, 6);
        due("place", x.told(1, 0), 13);
        due("waited", x.told(1, 2), 6);
        due("kind", x.told(1, 3), 1);
        due("more", x.told(1, 4), 2);
        due("gap", x.told(1, 5), 2);
        due("liked", x.told(1, 6), 1004);
        due("walks", x.told(1, 7), 1000);
        due("alone", x.told(1, 8), 1);
        due("not alone", x.told(0, 8), 0);
        due("far", x.told(0, 9), 3);
        due("far", x.told(2, 9), 27);
        x.put(1, 1, 1);
        due("hidden", x.told(1, 1), 1);
        due("the hidden one isn't alone", x.told(1, 8), 0);
        due("far of the hidden one", x.told(1, 9), 3);
        due("far, the hidden one not counted", x.told(0, 9), 30);
        x.put(2, 0, -1);
        due("far, nobody else seen", x.told(0, 9), -1);
        due("far of one at none", x.told(2, 9), -1);
        due("place of one at none", x.told(2, 0), -1);
        due("alone at none", x.told(2, 8), 0);
        due("told(0, 10)", x.told(0, 10), -7);
        due("told(0, -1)", x.told(0, -1), -7);
        due("told(3, 0)", x.told(3, 0), -5);
        due("told(-1, 0)", x.told(-1, 0), -5);
        due("none such ahead of what", x.told(3, 10), -5);
    }

    private static void toldByKind() {
        CHECK.about("the terms: kinds");
        int[] gaps = {9, 4, 13, 4, 13, 0};
        int[] liked = {20, 16, 20, 16, -20, 40};
        int[] walkAlone = {3, 3, 4, 0, -4, 3};
        int[] walkNotAlone = {3, 3, 3, -4, -4, 3};
        for (int kind = 0; kind < 6; kind++) {
            FerryForAlone x = Check.under("gaps 9;likes 20;walks 3;", 10 * kind + 4, 10);
            x.bay(0, 1);
            due("gap of kind " + kind, x.told(0, 5), gaps[kind]);
            due("liked of kind " + kind, x.told(0, 6), 1000 + liked[kind]);
            due("walks of kind " + kind, x.told(0, 7), 1000 + walkAlone[kind]);
            x.traveller(0, 10);
            // A lamp, whose gap is 0, is alone in any company.
            due("walks in company of kind " + kind, x.told(0, 7), 1000 + walkNotAlone[kind]);
            x.bay(0, 4);
            due("liked at hour 4 of kind " + kind, x.told(0, 6), 1000 + (kind == 3 ? 99 : liked[kind]));
            x.bay(0, 2);
            due("walks at hour 2 of kind " + kind, x.told(0, 7), 1000 + (kind == 4 ? 4 : walkNotAlone[kind]));
            due("liked at hour 2 of kind " + kind, x.told(0, 6), 1000 + liked[kind]);
        }
    }
}
