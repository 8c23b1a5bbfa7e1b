/** Promises 22 to 28: told hours. */
public final class ToldHoursTest {
    private static final Check CHECK = new Check();

    public static void main(String[] args) {
        judge();
        judgeLengths();
        kinds();
        kindsByMore();
        places();
        turned();
        waits();
        laws();
        film();
        refusals();
        CHECK.end();
    }

    private static void due(String call, long got, long want) {
        CHECK.due(call, got, want);
    }

    private static void judge() {
        CHECK.about("promise 22");
        FerryForAlone x = Check.strand(0, 31, 0, 0);
        Check.tell(x, 0, 1, 0, 2, 0, 0, 0, 0);
        due("as it is", x.judge(0), -1);
        x.cell(0, 6, 2);
        due("the last is otherwise", x.judge(0), 6);
        x.cell(0, 2, 0);
        due("the third is otherwise", x.judge(0), 2);
        x.cell(0, 1, 2);
        due("the second is otherwise", x.judge(0), 1);
        x.cell(0, 0, 7);
        due("the first is otherwise", x.judge(0), 0);
        x.cell(0, 0, -1);
        due("a number below 0", x.judge(0), 0);
        due("nothing has changed", x.count(1), 0);
        x.sheet(1, 2, 1);
        x.cell(1, 0, 257);
        due("ints are whole", x.judge(1), 0);
        x.sheet(1, 0, 1);
        x.cell(1, 0, 257);
        due("of bytes the lowest 8 bits", x.judge(1), -1);
        x.sheet(1, 1, 1);
        x.cell(1, 0, 65537);
        due("of shorts the lowest 16 bits", x.judge(1), -1);
        x.hour();
        due("from now on", x.judge(1), 0);
    }

    private static void judgeLengths() {
        CHECK.about("promise 22, 24 hours");
        FerryForAlone x = new FerryForAlone();
        x.sheet(0, 0, 0);
        due("no hour", x.judge(0), -1);
        x.sheet(0, 0, 24);
        due("24 hours", x.judge(0), -1);
        x.cell(0, 23, 1);
        due("the 24th is otherwise", x.judge(0), 23);
        x.sheet(0, 0, 25);
        due("25 hours", x.judge(0), -2);
        x.bay(0, 9999);
        x.sheet(0, 0, 24);
        due("past the last hour", x.judge(0), -1);
    }

    private static void kinds() {
        CHECK.about("promise 23, kinds");
        FerryForAlone x = Check.strand(5, 31, 1, 10);
        Check.tell(x, 0, 2);
        due("kinds(0, 0, 0) at hour 0", x.kinds(0, 0, 0), 2);
        due("kinds(0, 1, 0) at hour 0", x.kinds(0, 1, 0), 8 + 32);
        x.bay(0, 1);
        due("kinds(0, 0, 0) at hour 1", x.kinds(0, 0, 0), 2 + 8);
        Check.tell(x, 0, 1);
        due("kinds(0, 0, 0) of the others", x.kinds(0, 0, 0), 63 - 2 - 8);
        due("the kind stays", x.told(0, 3), 0);
        Check.tell(x, 0, 0);
        due("of none", x.kinds(0, 0, 0), 0);
    }

    private static void kindsByMore() {
        CHECK.about("promise 23, more");
        FerryForAlone x = Check.strand(15, 31, 1, 10);
        Check.tell(x, 0, 2);
        due("kinds(0, 0, 1), a priest", x.kinds(0, 0, 1), 1022);
        due("kinds(0, 1, 1), a traveller", x.kinds(0, 1, 1), 1023);
        due("more stays", x.told(0, 4), 5);
        due("kinds(0, 2, 0)", x.kinds(0, 2, 0), -5);
        due("kinds(0, -1, 0)", x.kinds(0, -1, 0), -5);
        due("kinds(0, 0, 2)", x.kinds(0, 0, 2), -7);
        due("kinds(0, 0, -1)", x.kinds(0, 0, -1), -7);
        due("kinds(0, 2, 2)", x.kinds(0, 2, 2), -5);
        x.put(0, 0, -1);
        due("kinds(0, 0, 0) of one at none", x.kinds(0, 0, 0), 63);
    }

    private static void places() {
        CHECK.about("promise 24");
        FerryForAlone x = Check.strand(0, 30, 0, 33);
        Check.tell(x, 0, 0);
        long near = 511L << 29;
        due("nobody is fetched", x.places(0, 0), near);
        Check.tell(x, 0, 1);
        due("one is", x.places(0, 0), ~near);
        due("of the other one", x.places(0, 1), ~(511L << 26));
        Check.tell(x, 0, 1, 0, 2);
        due("one is, and is back soon", x.places(0, 0), ((1L << 20) - 1) << 22 & ~near);
        due("one stays", x.told(0, 0), 30);
        x.put(1, 0, 2);
        Check.tell(x, 0, 1);
        due("at none of the first seven, and at all to the last", x.places(0, 0), ~127L);
        Check.tell(x, 0, 7);
        due("by none", x.places(0, 0), 0);
        x.put(1, 1, 1);
        Check.tell(x, 0, 1);
        due("of a hidden one", x.places(0, 1), -1);
        due("none such", x.places(0, 2), FerryForAlone.NO);
        due("none such", x.places(0, -1), FerryForAlone.NO);
        x.sheet(1, 0, 25);
        due("more than 24", x.places(1, 0), FerryForAlone.NO);
        due("missing", x.places(2, 0), FerryForAlone.NO);
        due("no sheet", x.places(4, 0), FerryForAlone.NO);
        due("no sheet", x.places(-1, 0), FerryForAlone.NO);
        x.hour();
        due("one is in the boat", x.places(0, 0), FerryForAlone.NO);
        x.hour();
        due("one is over", x.places(0, 0), FerryForAlone.NO);
    }

    private static void turned() {
        CHECK.about("promise 25");
        FerryForAlone x = Check.strand(0, 30, 0, 33, 0, 36);
        Check.tell(x, 0, 0);
        due("nobody is fetched", x.turned(0), 5);
        Check.tell(x, 0, 1);
        due("the first is fetched", x.turned(0), 2);
        Check.tell(x, 0, 2);
        due("the second is fetched", x.turned(0), 0);
        x.put(1, 1, 1);
        Check.tell(x, 0, 0);
        due("by one that is not hidden then", x.turned(0), 2);
        Check.tell(x, 0, 3);
        due("by one that is hidden", x.turned(0), 1);
        due("who is hidden stays", x.ferry(4), 5);
        x.put(2, 0, -1);
        Check.tell(x, 0, 1);
        due("one who is over makes no difference", x.turned(0), 4);
        FerryForAlone empty = new FerryForAlone();
        Check.tell(empty, 0, 0);
        due("nobody there", empty.turned(0), 0);
    }

    private static void waits() {
        CHECK.about("promise 26");
        FerryForAlone x = Check.strand(0, 31, 0, 10);
        x.put(1, 2, 50);
        Check.tell(x, 0, 1);
        due("how many", x.waits(0, 0, 0), 50);
        due("the least", x.waits(0, 0, 1), 50);
        Check.tell(x, 0, 2);
        due("how many", x.waits(0, 0, 0), 50);
        due("the least", x.waits(0, 0, 1), 0);
        due("how many of the other", x.waits(0, 1, 0), 99);
        due("the least of the other", x.waits(0, 1, 1), 1);
        Check.tell(x, 0, 3);
        due("none", x.waits(0, 0, 0), 0);
        due("none", x.waits(0, 0, 1), -1);
        Check.tell(x, 0, 1, 0, 2);
        x.put(1, 2, 98);
        due("up to 99", x.waits(0, 0, 0), 2);
        due("the least", x.waits(0, 0, 1), 98);
        due("waited stays", x.told(0, 2), 0);
        due("waits(0, 2, 0)", x.waits(0, 2, 0), -5);
        due("waits(0, -1, 0)", x.waits(0, -1, 0), -5);
        due("waits(0, 0, 2)", x.waits(0, 0, 2), -7);
        due("waits(0, 0, -1)", x.waits(0, 0, -1), -7);
        due("waits(0, 2, 2)", x.waits(0, 2, 2), -5);
    }

    private static void laws() {
        CHECK.about("promise 27");
        FerryForAlone x = Check.strand(0, 31, 0, 10);
        x.put(1, 2, 5);
        Check.read(x, "gaps 5;likes -waited;walks 0;");
        Check.read(x, "gaps 99;likes 0;walks 0;");
        Check.tell(x, 0, 2);
        due("by the first", x.laws(0), 1);
        Check.tell(x, 0, 1);
        due("by the second", x.laws(0), 2);
        Check.tell(x, 0, 0);
        due("by the third", x.laws(0), 4);
        Check.tell(x, 0, 3);
        due("by none", x.laws(0), 0);
        Check.tell(x, 0);
        due("by each", x.laws(0), 7);
        x.force(1);
        Check.tell(x, 0, 2);
        due("by the first, another being the law", x.laws(0), 1);
        due("the law stays", x.count(4), 1);
    }

    private static void film() {
        CHECK.about("promise 28");
        FerryForAlone x = Check.strand(0, 31, 0, 0);
        due("film(0, 24)", x.film(0, 24), 24);
        Check.tell(x, 2, 1, 0, 2, 0, 0, 0, 0, 0, 0, 0, 0, 0, 0, 0, 0, 0, 0, 0, 0, 0, 0, 0, 0, 0);
        due("what it has to tell", x.judge(2), -1);
        due("as it is", x.judge(0), -1);
        due("24 of them", x.cell(0, 23, 0), 1);
        due("no more", x.cell(0, 24, 0), -12);
        due("nothing has changed but the sheet", x.count(1), 0);
        due("film(0, 25)", x.film(0, 25), -7);
        due("film(0, -1)", x.film(0, -1), -7);
        due("the sheet stays by that", x.cell(0, 23, 0), 1);
        due("film(4, 1)", x.film(4, 1), -2);
        due("film(-1, 1)", x.film(-1, 1), -2);
        due("film(4, 25)", x.film(4, 25), -2);
        due("film(3, 2)", x.film(3, 2), 2);
        due("of sort bytes", x.peopleBy(3, 0, 0, 0), 0);
        due("not of ints", x.peopleBy(3, 2, 0, 0), -13);
        x.sheet(3, 2, 40);
        due("film(3, 0)", x.film(3, 0), 0);
        due("an empty row", x.cell(3, 0, 0), -12);
        x.hour();
        due("film(0, 2)", x.film(0, 2), 2);
        due("from now on", x.judge(0), -1);
        due("two of them", x.cell(0, 2, 0), -12);
        Check.tell(x, 1, 0, 2);
        due("copy of what it has to tell", x.copy(1, 0, 0, 0, 2), 2);
        due("from now on", x.judge(0), -1);
    }

    private static void refusals() {
        CHECK.about("what judge() refuses, likewise");
        FerryForAlone x = Check.strand(0, 31);
        x.sheet(1, 1, 25);
        int[] sheets = {-1, 4, 0, 1};
        int[] refusals = {-2, -2, -11, -2};
        for (int i = 0; i < sheets.length; i++) {
            int s = sheets[i];
            due("judge(" + s + ")", x.judge(s), refusals[i]);
            due("kinds(" + s + ", 0, 0)", x.kinds(s, 0, 0), refusals[i]);
            due("kinds(" + s + ", 9, 9)", x.kinds(s, 9, 9), refusals[i]);
            due("turned(" + s + ")", x.turned(s), refusals[i]);
            due("waits(" + s + ", 0, 0)", x.waits(s, 0, 0), refusals[i]);
            due("waits(" + s + ", 9, 9)", x.waits(s, 9, 9), refusals[i]);
            due("laws(" + s + ")", x.laws(s), refusals[i]);
        }
    }
}
