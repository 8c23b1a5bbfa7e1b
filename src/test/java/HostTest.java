/** Promises 33 to 37: the host. */
public final class HostTest {
    private static final Check CHECK = new Check();

    public static void main(String[] args) {
        sheet();
        cell();
        cellsByPeople();
        copy();
        copyAsTheyWere();
        peopleBy();
        peopleByWhatStoodAhead();
        taken();
        takenByKind();
        CHECK.end();
    }

    private static void due(String call, long got, long want) {
        CHECK.due(call, got, want);
    }

    private static void sheet() {
        CHECK.about("promise 33");
        FerryForAlone x = new FerryForAlone();
        for (int s = 0; s < 4; s++) {
            for (int sort = 0; sort < 3; sort++) {
                due("sheet(" + s + ", " + sort + ", 40)", x.sheet(s, sort, 40), 1);
                due("the first cell", x.cell(s, 0, 1), 1);
                due("the last cell", x.cell(s, 39, 1), 1);
                due("behind it", x.cell(s, 40, 1), -12);
                due("of its sort", x.peopleBy(s, sort, 0, 0), 0);
                due("not of another", x.peopleBy(s, (sort + 1) % 3, 0, 0), -13);
            }
        }
        due("sheet(0, 0, 24)", x.sheet(0, 0, 24), 1);
        due("all are 0 again", x.judge(0), -1);
        due("sheet(0, 0, 0)", x.sheet(0, 0, 0), 1);
        due("no cell", x.cell(0, 0, 1), -12);
        due("sheet(0, 0, 41)", x.sheet(0, 0, 41), -2);
        due("sheet(0, 0, -1)", x.sheet(0, 0, -1), -14);
        due("sheet(4, 0, 1)", x.sheet(4, 0, 1), -2);
        due("sheet(-1, 0, 1)", x.sheet(-1, 0, 1), -2);
        due("sheet(0, 3, 1)", x.sheet(0, 3, 1), -2);
        due("sheet(0, -2, 1)", x.sheet(0, -2, 1), -2);
        due("bad ahead of a size below 0", x.sheet(0, 3, -1), -2);
        due("bad ahead of a size below 0", x.sheet(4, 0, -1), -2);
        due("it stays by what was refused", x.judge(0), -1);
        due("sheet(1, -1, 41)", x.sheet(1, -1, 41), 1);
        due("missing", x.cell(1, 0, 1), -11);
        due("sheet(2, -1, -1)", x.sheet(2, -1, -1), 1);
        due("missing", x.cell(2, 0, 1), -11);
        due("the other one stays", x.cell(3, 39, 1), 1);
    }

    private static void cell() {
        CHECK.about("promise 34");
        FerryForAlone x = new FerryForAlone();
        due("cell(0, 0, 0), missing", x.cell(0, 0, 0), -11);
        due("cell(0, -1, 0), missing", x.cell(0, -1, 0), -11);
        due("cell(4, 0, 0)", x.cell(4, 0, 0), -2);
        due("cell(-1, 0, 0)", x.cell(-1, 0, 0), -2);
        x.sheet(0, 2, 3);
        due("cell(0, 2, 5)", x.cell(0, 2, 5), 1);
        due("cell(0, 3, 5)", x.cell(0, 3, 5), -12);
        due("cell(0, -1, 5)", x.cell(0, -1, 5), -12);
        due("cell(0, far off)", x.cell(0, Integer.MAX_VALUE, 5), -12);
        due("cell(0, far off)", x.cell(0, Integer.MIN_VALUE, 5), -12);
        due("cell(0, 0, anything)", x.cell(0, 0, Integer.MIN_VALUE), 1);
        due("the third one is told", x.judge(0), 0);
        x.cell(0, 0, 0);
        due("the third one is told", x.judge(0), 2);
    }

    private static void cellsByPeople() {
        CHECK.about("promise 34, the lowest bits");
        int[] wide = {256 + 59, -256 + 59, 65536 + 59, -65536 + 59, 59};
        int[] asBytes = {1, 1, 1, 1, 1};
        int[] asShorts = {0, 0, 1, 1, 1};
        int[] asInts = {0, 0, 0, 0, 1};
        for (int i = 0; i < wide.length; i++) {
            int[] came = {asBytes[i], asShorts[i], asInts[i]};
            for (int sort = 0; sort < 3; sort++) {
                FerryForAlone x = new FerryForAlone();
                x.sheet(0, sort, 2);
                x.cell(0, 0, wide[i]);
                due("peopleBy " + wide[i] + " of sort " + sort, x.peopleBy(0, sort, 0, 1), came[sort]);
                due("who came", x.told(0, 4), came[sort] == 1 ? 9 : -5);
            }
        }
    }

    private static void copy() {
        CHECK.about("promise 35");
        FerryForAlone x = new FerryForAlone();
        Check.tell(x, 0, 1, 2, 3);
        x.sheet(1, 0, 4);
        x.sheet(2, 1, 4);
        due("copy(0, 0, 1, 1, 3)", x.copy(0, 0, 1, 1, 3), 3);
        due("copy(0, 0, 1, 2, 3)", x.copy(0, 0, 1, 2, 3), -12);
        due("copy(0, 1, 1, 0, 3)", x.copy(0, 1, 1, 0, 3), -12);
        due("copy(0, 0, 1, 0, -1)", x.copy(0, 0, 1, 0, -1), -12);
        due("copy(0, -1, 1, 0, 1)", x.copy(0, -1, 1, 0, 1), -12);
        due("copy(0, 0, 1, -1, 1)", x.copy(0, 0, 1, -1, 1), -12);
        due("copy(0, 3, 1, 4, 0)", x.copy(0, 3, 1, 4, 0), 0);
        due("copy(0, 4, 1, 0, 0)", x.copy(0, 4, 1, 0, 0), -12);
        due("copy(0, 0, 1, 5, 0)", x.copy(0, 0, 1, 5, 0), -12);
        int far = Integer.MAX_VALUE;
        due("copy far off", x.copy(0, far, 1, far, far), -12);
        due("copy far off", x.copy(0, 1, 1, 0, far), -12);
        due("copy far off", x.copy(0, 0, 1, 1, far), -12);
        due("copy far off", x.copy(0, Integer.MIN_VALUE, 1, 0, 1), -12);
        due("copy of far less than none", x.copy(0, 0, 1, 0, Integer.MIN_VALUE), -12);
        due("unlike", x.copy(0, 0, 2, 0, 1), -13);
        due("unlike ahead of outside", x.copy(0, 9, 2, 9, -1), -13);
        due("missing", x.copy(3, 0, 2, 0, 1), -11);
        due("missing", x.copy(2, 0, 3, 0, 1), -11);
        due("missing ahead of outside", x.copy(3, 9, 3, 9, -1), -11);
        due("bad", x.copy(4, 0, 3, 0, 1), -2);
        due("bad", x.copy(3, 0, 4, 0, 1), -2);
        due("bad", x.copy(-1, 0, 0, 0, 1), -2);
        due("bad", x.copy(0, 0, -1, 0, 1), -2);
        holds(x, 1, 0, 1, 2, 3);
        holds(x, 0, 1, 2, 3);
    }

    /** A sheet of bytes holds such numbers of 0 .. 6: each hour is told apart by who would be fetched. */
    private static void holds(FerryForAlone x, int s, int... cells) {
        for (int i = 0; i < cells.length; i++) {
            x.sheet(3, 0, 2);
            due("cell " + i, x.copy(s, i, 3, 0, 1), 1);
            x.image();
            x.peopleBy(3, 0, 0, 1);
            due("what is in cell " + i, x.told(0, 4), cells[i]);
            x.back();
        }
        x.sheet(3, -1, 0);
    }

    private static void copyAsTheyWere() {
        CHECK.about("promise 35, its own place");
        FerryForAlone x = new FerryForAlone();
        Check.tell(x, 0, 1, 2, 3, 4, 5);
        due("on", x.copy(0, 0, 0, 1, 4), 4);
        holds(x, 0, 1, 1, 2, 3, 4);
        Check.tell(x, 0, 1, 2, 3, 4, 5);
        due("back", x.copy(0, 1, 0, 0, 4), 4);
        holds(x, 0, 2, 3, 4, 5, 5);
        due("onto itself", x.copy(0, 0, 0, 0, 5), 5);
        holds(x, 0, 2, 3, 4, 5, 5);
    }

    private static void peopleBy() {
        CHECK.about("promise 36");
        FerryForAlone x = new FerryForAlone();
        Check.tell(x, 0, 9, 59, 63, 60, 0, 31, 64, 42, 7);
        due("peopleBy(0, 0, 1, 4)", x.peopleBy(0, 0, 1, 4), 2);
        due("kind", x.told(0, 3), 5);
        due("more", x.told(0, 4), 9);
        due("place", x.told(0, 0), 63);
        due("kind", x.told(1, 3), 4);
        due("more", x.told(1, 4), 2);
        due("place", x.told(1, 0), 7);
        due("others are left out", x.count(0), 2);
        due("peopleBy(0, 0, 1, 0)", x.peopleBy(0, 0, 1, 0), 0);
        due("none of them, from outside", x.peopleBy(0, 0, 99, 0), 0);
        due("peopleBy(0, 0, 1, 7)", x.peopleBy(0, 0, 1, 7), -2);
        due("peopleBy(0, 0, 1, -1)", x.peopleBy(0, 0, 1, -1), -2);
        due("peopleBy(4, 0, 1, 1)", x.peopleBy(4, 0, 1, 1), -2);
        due("peopleBy(-1, 0, 1, 1)", x.peopleBy(-1, 0, 1, 1), -2);
        due("peopleBy(0, 3, 1, 1)", x.peopleBy(0, 3, 1, 1), -2);
        due("peopleBy(0, -1, 1, 1)", x.peopleBy(0, -1, 1, 1), -2);
        due("missing", x.peopleBy(1, 0, 1, 1), -11);
        due("missing ahead of outside", x.peopleBy(1, 1, -1, 1), -11);
        due("of another sort", x.peopleBy(0, 1, 1, 1), -13);
        due("of another sort ahead of outside", x.peopleBy(0, 2, -1, 1), -13);
        due("nobody came by that", x.count(0), 2);
        x.sheet(0, 0, 12);
        due("four have room", x.peopleBy(0, 0, 0, 6), 4);
        due("full", x.peopleBy(0, 0, 0, 6), 0);
        due("full, and then outside", x.peopleBy(0, 0, 2, 6), -12);
    }

    private static void peopleByWhatStoodAhead() {
        CHECK.about("promise 36, what stood ahead");
        FerryForAlone x = new FerryForAlone();
        Check.tell(x, 0, 1, 1, 2, 2, 3);
        due("peopleBy(0, 0, 0, 3)", x.peopleBy(0, 0, 0, 3), -12);
        due("two came", x.count(0), 2);
        due("peopleBy(0, 0, 4, 1)", x.peopleBy(0, 0, 4, 1), -12);
        due("peopleBy(0, 0, 5, 1)", x.peopleBy(0, 0, 5, 1), -12);
        due("peopleBy(0, 0, -1, 1)", x.peopleBy(0, 0, -1, 1), -12);
        due("peopleBy(0, 0, -2, 2)", x.peopleBy(0, 0, -2, 2), -12);
        due("peopleBy(0, 0, far off, 6)", x.peopleBy(0, 0, Integer.MAX_VALUE, 6), -12);
        due("peopleBy(0, 0, far off, 6)", x.peopleBy(0, 0, Integer.MAX_VALUE - 1, 6), -12);
        due("peopleBy(0, 0, far off, 6)", x.peopleBy(0, 0, Integer.MIN_VALUE, 6), -12);
        due("nobody came by that", x.count(0), 2);
        due("peopleBy(0, 0, 3, 1)", x.peopleBy(0, 0, 3, 1), 1);
        due("who came", x.told(2, 0), 3);
    }

    private static void taken() {
        CHECK.about("promise 37");
        FerryForAlone x = Check.strand(0, 10, 0, 20);
        x.put(1, 2, 42);
        due("taken(1, 0)", x.taken(1, 0), 1);
        due("taken(7, 6)", x.taken(7, 6), 42);
        due("taken(6, 6)", x.taken(6, 6), 0);
        due("taken(7, 0)", x.taken(7, 0), -13);
        due("taken(1, 6)", x.taken(1, 6), -13);
        due("taken(2, 0)", x.taken(2, 0), -11);
        due("taken(2, 6)", x.taken(2, 6), -11);
        due("taken(8, 6)", x.taken(8, 6), -11);
        due("taken(8, 0)", x.taken(8, 0), -11);
        due("taken(11, 6)", x.taken(11, 6), -11);
        due("taken(12, 6)", x.taken(12, 6), -12);
        due("taken(-1, 0)", x.taken(-1, 0), -12);
        due("taken(0, 7)", x.taken(0, 7), -2);
        due("taken(0, -1)", x.taken(0, -1), -2);
        due("bad ahead of outside", x.taken(12, 7), -2);
        x.put(1, 0, -1);
        due("one who is over", x.taken(1, 0), 1);
    }

    private static void takenByKind() {
        CHECK.about("promise 37, kinds");
        FerryForAlone x = Check.strand(0, 0, 10, 0, 20, 0, 30, 0, 40, 0, 50, 0);
        int[] kindsOf = {1, 1 | 2, 1 | 4, 1 | 2 | 8, 1 | 4 | 16, 1 | 32};
        for (int p = 0; p < 6; p++) {
            for (int kind = 0; kind < 6; kind++) {
                int want = (kindsOf[p] >> kind & 1) == 1 ? p : -13;
                due("taken(" + p + ", " + kind + ")", x.taken(p, kind), want);
                due("taken(" + (6 + p) + ", " + kind + ")", x.taken(6 + p, kind), -13);
            }
        }
    }
}
