/** Asks an object all that it keeps, and spoils it by that: two objects that answer the same are in the same state. */
final class Probe {
    private final FerryForAlone x;
    private final long[] answers = new long[400];
    private int asked = 0;

    private Probe(FerryForAlone x) {
        this.x = x;
    }

    /** Some 300 calls at most: the scene has the others of the 512. */
    static long[] all(FerryForAlone x) {
        Probe probe = new Probe(x);
        probe.strand();
        probe.sheets();
        probe.tape();
        // An image of nobody makes room for those by whom the sheets are read.
        probe.add(x.back());
        probe.strand();
        probe.cells();
        return probe.answers;
    }

    private long add(long answer) {
        answers[asked] = answer;
        asked++;
        return answer;
    }

    private void strand() {
        for (int what = 0; what < 6; what++) {
            add(x.count(what));
            add(x.ferry(what));
        }
        for (int p = 0; p < x.count(0); p++) {
            for (int what = 0; what < 10; what++) {
                add(x.told(p, what));
            }
            for (int part = 0; part < 3; part++) {
                add(x.asks(part, p));
            }
        }
    }

    private void sheets() {
        for (int s = 0; s < 4; s++) {
            if (add(x.judge(s)) != -11) {
                for (int sort = 0; sort < 3; sort++) {
                    add(x.peopleBy(s, sort, 0, 0));
                }
                add(sizeOf(s));
            }
        }
    }

    private int sizeOf(int s) {
        int most = 40;
        int least = 0;
        while (least < most) {
            int n = (least + most + 1) / 2;
            if (x.copy(s, 0, s, 0, n) == n) {
                least = n;
            } else {
                most = n - 1;
            }
        }
        return least;
    }

    private void tape() {
        if (add(x.text()) > 0) {
            add(x.force(x.count(3) - 1));
            x.traveller(0, 0);
            for (int part = 0; part < 3; part++) {
                add(x.asks(part, 0));
            }
        }
    }

    /** The first six cells of each sheet, as far as they tell of people. */
    private void cells() {
        for (int s = 0; s < 4; s++) {
            x.back();
            for (int i = 0; i < 6; i += 2) {
                for (int sort = 0; sort < 3; sort++) {
                    add(x.peopleBy(s, sort, i, 1));
                }
            }
            for (int p = 0; p < 3; p++) {
                add(x.told(p, 0));
                add(x.told(p, 3));
                add(x.told(p, 4));
            }
        }
    }
}
