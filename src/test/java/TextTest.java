/** Promise 6, and the terms' text: what it says, and where its fault is. */
public final class TextTest {
    private static final Check CHECK = new Check();
    private static final String REST = ";likes 0;walks 0;";

    public static void main(String[] args) {
        numbers();
        values();
        parts();
        faults();
        depths();
        lexicalFaults();
        CHECK.end();
    }

    private static void numbers() {
        CHECK.about("promise 6");
        FerryForAlone x = Check.strand(0, 0);
        for (int t = 1; t < 6; t++) {
            CHECK.due("text " + t, Check.read(x, "gaps " + 2 * t + ";likes 3+" + t + ";walks -" + t + "-1;"), t);
            CHECK.due("the tape is empty then", x.count(5), 0);
            if (t == 2) {
                CHECK.due("a fault", Check.read(x, "gaps !;likes 0;walks 0;"), -105);
                CHECK.due("the tape is empty by a fault too", x.count(5), 0);
                CHECK.due("no text came", x.count(3), 3);
            }
        }
        Check.feed(x, "gaps !");
        CHECK.due("full, ahead of the fault", x.text(), -4);
        CHECK.due("then the tape stays", x.count(5), 6);
        CHECK.due("six texts", x.count(3), 6);
        CHECK.due("the law is the first", x.count(4), 0);
        for (int t = 1; t < 6; t++) {
            x.force(t);
            CHECK.due("gaps of text " + t, x.asks(0, 0), 2 * t);
            CHECK.due("likes of text " + t, x.asks(1, 0), 3 + t);
            CHECK.due("walks of text " + t, x.asks(2, 0), -t - 1);
        }
        StringBuilder longest = new StringBuilder("gaps 1");
        while (longest.length() + 2 + REST.length() <= 160) {
            longest.append("+1");
        }
        while (longest.length() + REST.length() < 160) {
            longest.append(' ');
        }
        FerryForAlone y = Check.strand(0, 0);
        CHECK.due("160 bytes", Check.read(y, longest + REST), 1);
        y.force(1);
        CHECK.due("the sum", y.asks(0, 0), 1 + (160 - 6 - REST.length()) / 2);
    }

    /** One at place 7, more 4, waited 3; hour 12; two are seen; one was fetched. */
    private static FerryForAlone scene(String law) {
        FerryForAlone x = Check.strand(0, 31);
        x.hour();
        x.traveller(4, 7);
        x.traveller(5, 40);
        x.traveller(5, 50);
        x.put(3, 1, 1);
        x.put(1, 2, 3);
        x.bay(0, 12);
        x.force(Check.read(x, law));
        return x;
    }

    private static void say(String e, int value) {
        FerryForAlone x = scene("gaps 0;likes " + e + ";walks 0;");
        CHECK.due("(a text) " + e, x.count(4), 1);
        CHECK.due(e, x.asks(1, 1), value);
    }

    private static void values() {
        CHECK.about("what a text says");
        String[] said = {
            "place", "waited", "hour", "seen", "fetched", "more", "0", "00", "0012", "5 + 6",
            "10-3-2", "10 - (3 - 2)", "1+2*3", "(1+2)*3", "2*3*4", "-3", "--3", "-3*2", "2*-3", "2--3",
            "-(1+2)", "3<4", "4<4", "5<4", "-1<0", "4=4", "3=4", "1+1=2", "2<1+2", "not 0",
            "not 5", "not not 5", "not 3<4", "not 4<3", "2 and 3", "2 and 0", "0 and 2", "0 or 7", "7 or 0", "0 or 0",
            "1 or 0 and 0", "(1 or 0) and 0", "0 and 0 or 1", "not 0 and 0", "not 1 or 1", "5+(2 or 3)", "(7)",
            "1 and 2 and 3", "0 or 0 or 9", "1 and 1 and 0", "0-1 and 1",
            "4096*4096*128<0", "4096*4096*256", "4096*4096*128-1<0", "4096*4096*256+6", "place*more-hour",
            "9999", "-9999", "98", "99", "100", "-99", "-100", "(((((3)))))", "-----3", "not not not not not 0",
            "hour=12 and place=7", "1<2 and 2<1 or 3"
        };
        int[] values = {
            7, 3, 12, 2, 1, 4, 0, 0, 12, 11,
            5, 9, 7, 9, 24, -3, 3, -6, -6, 5,
            -3, 1, 0, 0, 1, 1, 0, 1, 1, 1,
            0, 1, 0, 1, 1, 0, 0, 1, 1, 0,
            1, 0, 1, 0, 1, 6, 7,
            1, 1, 0, 1,
            1, 0, 0, 6, 16,
            99, -99, 98, 99, 99, -99, -99, 3, -3, 1,
            1, 1
        };
        for (int i = 0; i < said.length; i++) {
            say(said[i], values[i]);
        }
        CHECK.due("as many values as texts", values.length, said.length);
        FerryForAlone x = scene("gaps 0;likes 10+place;walks 0;");
        CHECK.due("place of one at none", x.asks(1, 0), 10);
        x = scene("gaps seen;likes 0;walks 0;");
        x.put(2, 0, -1);
        CHECK.due("seen, one over and one hidden", x.asks(0, 1), 1);
    }

    private static void parts() {
        CHECK.about("the parts of a text");
        FerryForAlone x = scene("gaps\n11;\nlikes(12);walks-13;\n");
        CHECK.due("gaps", x.asks(0, 1), 11);
        CHECK.due("likes", x.asks(1, 1), 12);
        CHECK.due("walks", x.asks(2, 1), -13);
        x = scene("gaps5;likes6;walks7;");
        CHECK.due("a number right behind a word", x.asks(0, 1), 5);
        x = scene("gaps 1*2+3;likes 4*5 and 1;walks not 0;");
        CHECK.due("gaps", x.asks(0, 1), 5);
        CHECK.due("likes", x.asks(1, 1), 1);
        CHECK.due("walks", x.asks(2, 1), 1);
    }

    private static void fault(String tape, int place) {
        CHECK.due("text of '" + tape + "'", Check.read(new FerryForAlone(), tape), -100 - place);
    }

    private static void stands(String e) {
        CHECK.due("text of '" + e + "'", Check.read(new FerryForAlone(), "gaps " + e + REST), 1);
    }

    private static void faults() {
        CHECK.about("faults: tokens that can't stand there");
        fault("", 0);
        fault("   ", 3);
        fault("gaps", 4);
        fault("gaps 5", 6);
        fault("gaps 5  ", 8);
        fault("gaps 5 ;", 8);
        fault("gaps 5 ; likes waited ; walks 0", 31);
        fault("gaps 5 ; likes waited ; walks 0 ; ;", 34);
        fault("gaps 5;likes 0;walks 0;gaps", 23);
        fault("likes 5;", 0);
        fault("5", 0);
        fault("gaps 5;walks 0;", 7);
        fault("gaps 5;gaps 0;", 7);
        fault("gaps 5;likes 0;likes 0;", 15);
        fault("gaps 1234 5 ;", 10);
        fault("gaps (1 ;", 8);
        fault("gaps 1) ;", 6);
        fault("gaps ();", 6);
        fault("gaps 1 + not 1;", 9);
        fault("gaps 1 * not 1;", 9);
        fault("gaps - not 1;", 7);
        fault("gaps 1 < not 1;", 9);
        fault("gaps 1 < 2 < 3;", 11);
        fault("gaps 1 = 2 = 3;", 11);
        fault("gaps 1 < = 3;", 9);
        fault("gaps 1 likes", 7);
        fault("gaps 1 place", 7);
        fault("gaps 1 not 1", 7);
        fault("gaps or", 5);
        fault("gaps and", 5);
        fault("gaps ;", 5);
        fault("gaps + 1;", 5);
        fault("gaps * 1;", 5);
        fault("gaps 1 and ;", 11);
        fault("gaps 1 or ;", 10);
        fault("gaps 1 + ;", 9);
        fault("gaps 1 * ;", 9);
        fault("gaps not ;", 9);
        fault("gaps - ;", 7);
        fault("gaps likes", 5);
        stands("not (1 < 2) = 0");
        stands("(not 1) + 1");
        fault("gaps (1 ! ", 8);
    }

    private static void depths() {
        CHECK.about("faults: five are open");
        stands("(((((1)))))");
        fault("gaps ((((((1", 10);
        stands("not not not not not 1");
        fault("gaps not not not not not not 1", 25);
        stands("-----1");
        fault("gaps ------1", 10);
        stands("1------1");
        fault("gaps 1 -------1", 13);
        stands("not(-(-1))");
        fault("gaps not(-(-(1", 12);
        stands("(1)+(2)+(3)+(4)+(5)+(6)+(7)");
        stands("-1-(-1)-(-1)*-1*-1*-1");
        stands("not 1 and not 1 and not 1 or not 1 or not 1 or not 1");
        fault("gaps not 1 < (((((1", 17);
        stands("not 1 < ((((1)))) and (((((1)))))");
        stands("-1*(((((1)))))");
        fault("gaps -(((((1", 10);
        fault("gaps (((((-1", 10);
        fault("gaps (((((not 1", 10);
        stands("((((-1))))");
        stands("((((not 1))))");
        stands("(((((1 - 1)))))");
    }

    private static void lexicalFaults() {
        CHECK.about("faults: what is no token");
        fault("gapz 5", 0);
        fault("  gapz 5", 2);
        fault("gap 5", 0);
        fault("gapsz 5", 0);
        fault("gapsa 5", 0);
        fault("xaps 5", 0);
        fault("gaps xlace;", 5);
        fault("gaps plaxe;", 5);
        fault("gaps placx;", 5);
        fault("gaps x;", 5);
        fault("gaps 1 ar 1;", 7);
        fault("gaps 1 os 1;", 7);
        fault("gapss 5", 0);
        fault("gaps 12345 ;", 5);
        fault("gaps 00000 ;", 5);
        fault("gaps 99999999999999999999 ;", 5);
        fault("gaps A", 5);
        fault("gaps !", 5);
        fault("gaps\t5", 4);
        fault("gaps 1\r;", 6);
        fault("gaps 1hour;", 6);
        fault("gaps placemore;", 5);
        fault("gaps 1 orplace;", 7);
        fault("gaps 1 {", 7);
        fault("gaps 1 `", 7);
        fault("gaps 1 /", 7);
        fault("gaps 1 :", 7);
        fault("gaps 1 >", 7);
        fault("gaps 1,", 6);
        fault("gaps 1." , 6);
        fault("Gaps 1", 0);
        fault("gaps 1 " + (char) 0, 7);
        fault("gaps 1 " + (char) 255, 7);
        fault("gaps 1 " + (char) 160, 7);
        // The first of two faults counts, of whichever sort it is.
        fault("gaps ; 12345", 5);
        fault("gaps 12345 ) !", 5);
    }
}
