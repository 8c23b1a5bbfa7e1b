/** Promises 16 to 21: what is best. */
public final class BestTest {
    private static final Check CHECK = new Check();

    public static void main(String[] args) {
        hide();
        stand();
        standAtTheBound();
        apart();
        apartByOwnPlace();
        breakwater();
        gap();
        middle();
        CHECK.end();
    }

    private static void due(String call, long got, long want) {
        CHECK.due(call, got, want);
    }

    private static void hide() {
        CHECK.about("promise 16");
        FerryForAlone x = Check.strand(0, 30, 0, 33, 0, 36);
        due("hide(20, 0)", x.hide(20, 0), 1);
        due("hide(20, 1)", x.hide(20, 1), 2);
        due("hide(3, 1)", x.hide(3, 1), 2);
        due("hide(2, 1)", x.hide(2, 1), 1);
        due("hide(60, 0)", x.hide(60, 0), 1);
        due("hide(0, 0)", x.hide(0, 0), -1);
        due("hide(0, 1)", x.hide(0, 1), 0);
        due("hide(61, 0)", x.hide(61, 0), -2);
        due("hide(-1, 0)", x.hide(-1, 0), -2);
        due("hide(1, 2)", x.hide(1, 2), -2);
        due("hide(1, -1)", x.hide(1, -1), -2);
        due("nobody is hidden truly", x.ferry(4), 7);
        x = Check.strand(0, 30, 0, 33);
        due("of like ones the first", x.hide(20, 0), 0);
        due("how many", x.hide(20, 1), 1);
        x.put(0, 1, 1);
        due("the other being hidden, nobody", x.hide(20, 0), -1);
        due("how many as it is", x.hide(20, 1), 1);
        x = Check.strand(0, 30);
        due("not if fewer", x.hide(20, 0), -1);
        due("how many", x.hide(20, 1), 1);
        x = Check.strand(0, 10, 0, 20, 0, 30, 0, 40, 0, 50, 0, 52);
        due("of six the last but one", x.hide(60, 0), 4);
        due("how many", x.hide(60, 1), 5);
        x = Check.strand(0, 10, 0, 50, 0, 52);
        due("hide(1, 0), as many without", x.hide(1, 0), -1);
        due("hide(1, 1)", x.hide(1, 1), 1);
        due("hide(20, 0), more", x.hide(20, 0), 1);
        due("hide(20, 1), more", x.hide(20, 1), 2);
    }

    private static void stand() {
        CHECK.about("promise 17");
        FerryForAlone x = Check.strand(0, 0);
        due("stand(0, 0)", x.stand(0, 0), 22);
        due("stand(0, 1)", x.stand(0, 1), 2);
        x.put(0, 1, 1);
        due("stand(0, 0), hidden", x.stand(0, 0), 22);
        due("stand(0, 1), hidden", x.stand(0, 1), 2);
        due("it is hidden still", x.told(0, 1), 1);
        due("it is where it was", x.told(0, 0), 0);
        x.put(0, 0, -1);
        due("stand(0, 0), over", x.stand(0, 0), 22);
        due("stand(0, 1), over", x.stand(0, 1), 2);
        x.traveller(0, 24);
        due("stand(0, 0), another one near", x.stand(0, 0), 29);
        due("stand(0, 1), another one near", x.stand(0, 1), 2);
        x.put(1, 2, 50);
        due("stand(0, 0), another one liked more", x.stand(0, 0), 29);
        due("stand(0, 1), another one liked more", x.stand(0, 1), 4);
        due("stand(2, 0)", x.stand(2, 0), -5);
        due("stand(-1, 0)", x.stand(-1, 0), -5);
        due("stand(0, 2)", x.stand(0, 2), -7);
        due("stand(0, -1)", x.stand(0, -1), -7);
        due("stand(2, 2)", x.stand(2, 2), -5);
        x.hour();
        due("stand(1, 0), in the boat", x.stand(1, 0), -3);
        due("stand(1, 2), in the boat", x.stand(1, 2), -7);
        due("stand(0, 1), the ferry being out", x.stand(0, 1), 3);
    }

    private static void standAtTheBound() {
        CHECK.about("promise 17, 60 hours");
        FerryForAlone x = Check.strand(0, 0);
        x.bay(1, 58);
        due("stand(0, 0)", x.stand(0, 0), 22);
        due("stand(0, 1)", x.stand(0, 1), 60);
        x.bay(1, 59);
        due("stand(0, 0)", x.stand(0, 0), -1);
        due("stand(0, 1)", x.stand(0, 1), -1);
        x = Check.under("gaps 99*(0<place);likes 0;walks 0;", 0, 3, 0, 30);
        due("at the first place", x.stand(0, 0), 0);
        due("at the first place", x.stand(0, 1), 5);
        x = Check.under("gaps 99*(place<63);likes 0;walks 0;", 0, 3, 0, 30);
        due("at the last place", x.stand(0, 0), 63);
        x = Check.under("gaps 99*(place<64);likes 0;walks 0;", 0, 3, 0, 30);
        due("not behind the last place", x.stand(0, 0), -1);
        x = Check.under("gaps 0;likes 0;walks 22=place;", 0, 3);
        x.bay(1, 1);
        due("it walks meanwhile", x.stand(0, 0), 22);
        x = Check.under("gaps 0;likes 0;walks place-1;", 0, 3);
        x.bay(1, 1);
        due("it walks meanwhile, up to 23", x.stand(0, 0), 12);
    }

    private static void apart() {
        CHECK.about("promise 18");
        FerryForAlone x = Check.strand(0, 10, 0, 12);
        due("apart(0, 0)", x.apart(0, 0), 3);
        due("apart(0, 1)", x.apart(0, 1), 7);
        due("apart(1, 0)", x.apart(1, 0), 3);
        due("apart(1, 1)", x.apart(1, 1), 15);
        x.put(0, 0, 12);
        due("of like ones the lesser", x.apart(0, 1), 7);
        due("five off", x.apart(0, 0), 5);
        x.put(0, 0, 40);
        due("alone as it is", x.apart(0, 0), 0);
        due("where it is", x.apart(0, 1), 40);
        x.put(0, 0, 1);
        x.put(1, 0, 2);
        due("below 0 there is no place", x.apart(0, 0), 6);
        due("which", x.apart(0, 1), 7);
        x.put(0, 0, 4);
        x.put(1, 0, 5);
        due("to the first place", x.apart(0, 0), 4);
        due("which", x.apart(0, 1), 0);
        x.put(0, 0, 59);
        x.put(1, 0, 58);
        due("to the last place", x.apart(0, 0), 4);
        due("which", x.apart(0, 1), 63);
        x.put(0, 0, 62);
        x.put(1, 0, 61);
        due("above 63 there is no place", x.apart(0, 0), 6);
        due("which", x.apart(0, 1), 56);
        due("apart(2, 0)", x.apart(2, 0), -5);
        due("apart(-1, 0)", x.apart(-1, 0), -5);
        due("apart(0, 2)", x.apart(0, 2), -7);
        due("apart(0, -1)", x.apart(0, -1), -7);
        due("apart(2, 2)", x.apart(2, 2), -5);
        x.put(0, 1, 1);
        due("apart(0, 0), hidden", x.apart(0, 0), -1);
        due("apart(0, 1), hidden", x.apart(0, 1), -1);
        due("apart(0, 2), hidden", x.apart(0, 2), -7);
        x.put(0, 0, -1);
        x.put(0, 1, 0);
        due("apart(0, 0), over", x.apart(0, 0), -1);
        x = Check.under("gaps 63;likes 0;walks 0;", 0, 0, 0, 0);
        due("63 off", x.apart(0, 0), 63);
        due("at 63", x.apart(0, 1), 63);
        x = Check.under("gaps 99;likes 0;walks 0;", 0, 0, 0, 0);
        due("no such place", x.apart(0, 0), -1);
        due("no such place", x.apart(0, 1), -1);
        due("nobody has moved", x.told(0, 0), 0);
    }

    private static void apartByOwnPlace() {
        CHECK.about("promise 18, the gap being another one there");
        FerryForAlone x = Check.under("gaps place;likes 0;walks 0;", 0, 10, 0, 12);
        due("apart(0, 0)", x.apart(0, 0), 4);
        due("apart(0, 1)", x.apart(0, 1), 6);
    }

    private static void breakwater() {
        CHECK.about("promise 19");
        FerryForAlone x = Check.strand(0, 30, 0, 33, 0, 36);
        due("breakwater(0)", x.breakwater(0), 2);
        due("breakwater(1)", x.breakwater(1), 1);
        due("breakwater(2)", x.breakwater(2), -2);
        due("breakwater(-1)", x.breakwater(-1), -2);
        due("nobody is hidden truly", x.ferry(4), 7);
        x.put(1, 1, 1);
        due("the one being hidden", x.breakwater(0), 0);
        due("the one being hidden", x.breakwater(1), 0);
        x = Check.strand(0, 30, 0, 33);
        due("of like ones the least", x.breakwater(0), 1);
        x = Check.strand(0, 30, 0, 30, 0, 30);
        due("breakwater(0), three at one place", x.breakwater(0), 3);
        due("breakwater(1), three at one place", x.breakwater(1), 2);
        x = Check.strand(0, 0, 0, 50, 0, 52, 20, 40);
        due("breakwater(0), far ones stay", x.breakwater(0), 2);
        x = Check.strand(0, 20, 0, 22, 0, 24, 0, 60, 0, 62, 0, 63);
        due("breakwater(0), four of six", x.breakwater(0), 27);
        due("breakwater(1), four of six", x.breakwater(1), 4);
        x = Check.under("gaps (seen-1)*99;likes 0;walks 0;", 0, 0, 0, 30, 0, 63);
        due("breakwater(0), the gap by those who are seen", x.breakwater(0), 3);
        x = Check.under("gaps (1<seen)*40+(2<seen)*50;likes 0;walks 0;", 0, 0, 0, 30, 0, 63);
        due("breakwater(0), the gap by those who stay", x.breakwater(0), 2);
    }

    private static void gap() {
        CHECK.about("promise 20");
        FerryForAlone x = Check.strand(0, 50, 0, 10, 0, 20);
        due("gap(0)", x.gap(0), 20);
        due("gap(1)", x.gap(1), 30);
        due("gap(2)", x.gap(2), -2);
        due("gap(-1)", x.gap(-1), -2);
        x.put(2, 1, 1);
        due("gap(0), nobody seen between", x.gap(0), 10);
        due("gap(1), nobody seen between", x.gap(1), 40);
        x.put(0, 0, -1);
        due("gap(0), one is seen", x.gap(0), -1);
        due("gap(1), one is seen", x.gap(1), -1);
        x = Check.strand(0, 10, 0, 20, 0, 30);
        due("of like ones the least number", x.gap(0), 1);
        x = Check.strand(0, 30, 0, 20, 0, 10);
        due("of like ones the least number", x.gap(0), 10);
        x = Check.strand(0, 30, 0, 30);
        due("two at one place", x.gap(0), 1);
        due("how far", x.gap(1), 0);
        x = Check.strand(0, 30, 0, 10, 0, 30, 0, 10);
        due("two times two", x.gap(0), 10);
        due("how far", x.gap(1), 20);
        x = Check.strand(0, 20, 0, 10, 0, 30);
        due("the first one stands between", x.gap(0), 2);
        due("how far", x.gap(1), 10);
        x = Check.strand(0, 63, 0, 30, 0, 0, 0, 30, 0, 62, 0, 33);
        due("one at each end", x.gap(0), 21);
        due("how far", x.gap(1), 30);
    }

    private static void middle() {
        CHECK.about("promise 21");
        FerryForAlone x = Check.strand(0, 31, 0, 10, 0, 21);
        x.put(1, 1, 1);
        due("middle(0)", x.middle(0), 62);
        due("middle(1)", x.middle(1), 3);
        due("middle(2)", x.middle(2), FerryForAlone.NO);
        due("middle(-1)", x.middle(-1), FerryForAlone.NO);
        x.hour();
        due("two of them are left", x.middle(0), 31);
        due("two of them are left", x.middle(1), 2);
        x.put(2, 0, 20);
        due("in lowest terms", x.middle(0), 15);
        due("in lowest terms", x.middle(1), 1);
        x.put(1, 0, 0);
        x.put(2, 0, 0);
        due("all at 0", x.middle(0), 0);
        due("all at 0", x.middle(1), 1);
        x.put(1, 0, -1);
        x.put(2, 0, -1);
        due("nobody is at any", x.middle(0), FerryForAlone.NO);
        due("nobody is at any", x.middle(1), FerryForAlone.NO);
    }
}
