/** Counts the answers that are not as due, and ends a test by them. */
final class Check {
    private int wrong = 0;
    private int asked = 0;
    private String about = "";

    /** What the next answers are about: it is printed ahead of those that are wrong. */
    void about(String text) {
        about = text;
    }

    void due(String call, long got, long want) {
        asked++;
        if (got != want) {
            wrong++;
            System.out.println(about + ": " + call + " answered " + got + ", due is " + want);
        }
    }

    void end() {
        System.out.println(asked + " answers, " + wrong + " of them not as due");
        if (wrong != 0 || asked == 0) {
            System.exit(1);
        }
    }

    static void feed(FerryForAlone x, String text) {
        for (int i = 0; i < text.length(); i += 5) {
            int n = Math.min(5, text.length() - i);
            int[] b = new int[5];
            for (int k = 0; k < n; k++) {
                b[k] = text.charAt(i + k);
            }
            x.feed(n, b[0], b[1], b[2], b[3], b[4]);
        }
    }

    static int read(FerryForAlone x, String text) {
        feed(x, text);
        return x.text();
    }

    /** A new object with people: KIND and MORE, place, and so on. */
    static FerryForAlone strand(int... kindMoreAndPlace) {
        FerryForAlone x = new FerryForAlone();
        for (int i = 0; i + 1 < kindMoreAndPlace.length; i += 2) {
            x.traveller(kindMoreAndPlace[i], kindMoreAndPlace[i + 1]);
        }
        return x;
    }

    /** A new object whose law is such a text, with people. */
    static FerryForAlone under(String law, int... kindMoreAndPlace) {
        FerryForAlone x = strand(kindMoreAndPlace);
        if (x.force(read(x, law)) != 0) {
            throw new IllegalArgumentException("no text: " + law);
        }
        return x;
    }

    static void tell(FerryForAlone x, int s, int... cells) {
        x.sheet(s, 0, cells.length);
        for (int i = 0; i < cells.length; i++) {
            x.cell(s, i, cells[i]);
        }
    }
}
