/** Promise 6, and what 'Terms' says of a text and its fault, sentence by sentence, at the bounds. */
public final class TextSentencesTest {
    private static final String REST = ";likes 0;walks 0;";
    private static final String[] NAMES = {"place", "waited", "hour", "seen", "fetched", "more"};
    private static final String[] KEYS = {"gaps", "likes", "walks", "or", "and", "not"};

    private TextSentencesTest() {
    }

    public static void main(String[] args) throws ReflectiveOperationException {
        Sentences.run(TextSentencesTest.class, 6);
    }

    private static void due(String call, long got, long want) {
        Sentences.due(call, got, want);
    }

    private static void fault(String tape, int place) {
        due("text of '" + tape + "'", Check.read(new FerryForAlone(), tape), -100 - place);
    }

    /** A gaps that stands: the text has no fault. */
    private static void stands(String e) {
        due("text of '" + e + "'", Check.read(new FerryForAlone(), "gaps " + e + REST), 1);
    }

    /** A gaps with a fault, whose place is told from the first byte behind 'gaps ' on. */
    private static void falls(String e, int place) {
        fault("gaps " + e + REST, 5 + place);
    }

    /** One AT 7, more 4, waited 3; hour 12; two are seen; one was fetched. */
    private static FerryForAlone scene(String law) {
        FerryForAlone x = Check.strand(0, 31, 4, 7, 5, 40, 5, 50);
        for (int p = 1; p < 4; p++) {
            x.put(p, 1, 1);
        }
        x.hour();
        x.put(1, 1, 0);
        x.put(2, 1, 0);
        x.put(1, 2, 3);
        x.bay(0, 12);
        due("force() of " + law, x.force(Check.read(x, law)), 0);
        return x;
    }

    private static void says(String e, int value) {
        due(e, scene("gaps 0;likes " + e + ";walks 0;").asks(1, 1), value);
    }

    private static String times(String text, int n) {
        return text.repeat(n);
    }

    // ---- promise 6

    @Holds("promise 6: the tape is a text: its number, 1 .. 5; it is empty then")
    static void numbers() {
        FerryForAlone x = Check.strand(0, 0);
        for (int t = 1; t < 6; t++) {
            due("text()", Check.read(x, "gaps " + (10 + t) + ";likes " + (20 + t) + ";walks " + (30 + t) + ";"), t);
            due("bytes of the tape", x.count(5), 0);
            due("texts", x.count(3), t + 1);
        }
        for (int t = 5; t > 0; t--) {
            x.force(t);
            for (int part = 0; part < 3; part++) {
                due("part " + part + " of text " + t, x.asks(part, 0), 10 * part + 10 + t);
            }
        }
    }

    @Holds("promise 6: a text is not the law by that")
    static void notTheLaw() {
        FerryForAlone x = Check.strand(0, 0);
        Check.read(x, "gaps 9;likes 9;walks 9;");
        due("the law", x.count(4), 0);
        due("gaps", x.asks(0, 0), 5);
    }

    @Holds("promise 6: the empty tape is a fault at place 0")
    static void emptyTape() {
        due("text()", new FerryForAlone().text(), -100);
        FerryForAlone x = new FerryForAlone();
        Check.read(x, "gaps 9;likes 9;walks 9;");
        due("the tape is empty behind a text", x.text(), -100);
    }

    @Holds("promise 6: the tape is empty by a fault, too")
    static void emptyByAFault() {
        FerryForAlone x = new FerryForAlone();
        due("text()", Check.read(x, "gaps 9;likes 9;walks 9;!"), -123);
        due("bytes of the tape", x.count(5), 0);
        due("texts", x.count(3), 1);
        due("text() again", x.text(), -100);
    }

    @Holds("promise 6: the tape being empty, what stood on it is not read any more")
    static void emptyForGood() {
        FerryForAlone x = new FerryForAlone();
        Check.read(x, times("a", 160));
        due("a word at the end", Check.read(x, "gaps"), -104);
        Check.read(x, times("1", 160));
        due("a number at the end", Check.read(x, "gaps 1234"), -109);
        Check.read(x, times(";", 160));
        due("no sign behind the end", Check.read(x, "gaps 5;likes 0;walks 0"), -122);
    }

    @Holds("promise 6: behind a fault the next text has the number that is due, and says what it says")
    static void behindAFault() {
        FerryForAlone x = Check.strand(0, 0);
        due("a fault in the last part", Check.read(x, "gaps 1+2+3;likes 4+5+6;walks 7+8+!;"), -133);
        due("text()", Check.read(x, "gaps 1;likes 2;walks 3;"), 1);
        due("a fault in the first part", Check.read(x, "gaps 1+2+3 4"), -111);
        x.force(1);
        for (int part = 0; part < 3; part++) {
            due("part " + part, x.asks(part, 0), part + 1);
        }
        due("text()", Check.read(x, "gaps 4;likes 5;walks 6;"), 2);
        for (int part = 0; part < 3; part++) {
            due("part " + part + ", the law being another one", x.asks(part, 0), part + 1);
        }
    }

    private static FerryForAlone sixTexts() {
        FerryForAlone x = Check.strand(0, 0);
        for (int t = 1; t < 6; t++) {
            Check.read(x, "gaps 1;likes 2;walks 3;");
        }
        return x;
    }

    @Holds("promise 6: six texts at most, else FULL")
    static void full() {
        FerryForAlone x = sixTexts();
        due("texts", x.count(3), 6);
        due("a text that stands", Check.read(x, "gaps 1;likes 2;walks 3;"), -4);
        due("texts", x.count(3), 6);
        due("force(6)", x.force(6), -2);
    }

    @Holds("promise 6: FULL ahead of the fault; then the tape stays")
    static void fullAheadOfTheFault() {
        due("an empty tape", sixTexts().text(), -4);
        FerryForAlone x = sixTexts();
        due("a fault", Check.read(x, "gaps !"), -4);
        due("bytes of the tape", x.count(5), 6);
        due("once more", x.text(), -4);
        due("bytes of the tape", x.count(5), 6);
        due("one comes behind it", x.feed(1, ' ', 0, 0, 0, 0), 7);
    }

    @Holds("promise 6: a fault is no text: five of them leave room for five texts")
    static void faultsHaveNoNumber() {
        FerryForAlone x = new FerryForAlone();
        for (int i = 0; i < 5; i++) {
            due("text()", Check.read(x, "!"), -100);
        }
        due("text()", Check.read(x, "gaps 1;likes 2;walks 3;"), 1);
    }

    @Holds("promise 6: a fault at the last of 160 places, and behind them")
    static void faultFarOff() {
        fault("gaps" + times(" ", 155) + "!", 159);
        fault(times(" ", 160), 160);
        fault("gaps 1" + times(" ", 154), 160);
        fault(times("a", 160), 0);
        fault(times(" ", 157) + "gap", 157);
        fault("gaps" + times(" ", 152) + "1234", 160);
    }

    @Holds("the terms: 160 bytes at most: a text may have all of them")
    static void longest() {
        FerryForAlone x = Check.strand(0, 0);
        String e = "1" + times("+1", 68);
        String text = "gaps " + e + " " + REST;
        due("bytes", text.length(), 160);
        due("text()", Check.read(x, text), 1);
        x.force(1);
        due("gaps", x.asks(0, 0), 69);
        String wide = times("0or ", 34) + "9 ";
        due("bytes", wide.length() + 5 + REST.length(), 160);
        due("text()", Check.read(x, "gaps " + wide + REST), 2);
        x.force(2);
        due("gaps", x.asks(0, 0), 1);
        String last = "gaps 7;likes 8;walks 1" + times("*1", 68) + " ;";
        due("bytes", last.length(), 160);
        due("text()", Check.read(x, last), 3);
        x.force(3);
        due("walks", x.asks(2, 0), 1);
    }

    // ---- tokens

    @Holds("the terms: words are as many letters a .. z as stand there")
    static void words() {
        fault("gapsplace;", 0);
        falls("placemore", 0);
        falls("1 orplace", 2);
        falls("1 andplace", 2);
        falls("notplace", 0);
        falls("placea", 0);
        falls("placez", 0);
        fault("gaps placeA", 10);
        fault("gaps place{", 10);
        fault("gaps place`", 10);
        fault("gaps place_", 10);
        stands("place+more");
    }

    @Holds("the terms: numbers are as many digits as stand there, four at most")
    static void numbersOfFourDigits() {
        says("0009", 9);
        says("9999", 99);
        says("9999-9998", 1);
        stands("0000");
        falls("00000", 0);
        falls("10000", 0);
        falls("12345", 0);
        falls("1+00001", 2);
        falls("99999999999999999999", 0);
        falls("4294967296", 0);
        falls("1234 5", 5);
    }

    @Holds("the terms: a number and a word part each other without a blank")
    static void numberAndWord() {
        stands("1or 2");
        stands("1and 2or 3");
        falls("1place", 1);
        falls("place1", 5);
        stands("not 1");
        stands("not1");
        FerryForAlone x = Check.strand(0, 0);
        due("no blanks at all", Check.read(x, "gaps5;likes6;walks7;"), 1);
        x.force(1);
        due("gaps", x.asks(0, 0), 5);
    }

    @Holds("the terms: blanks are 32 and 10 and may stand between, ahead and behind")
    static void blanks() {
        for (String blank : new String[] {" ", "\n", "  ", " \n ", "\n\n"}) {
            String text = "gaps_(_-_1_)_*_2_or_not_0_;_likes_1_<_2_;_walks_1_=_2_;_".replace("_", blank);
            due("text()", Check.read(new FerryForAlone(), text.length() > 159 ? "" : blank + text), 1);
        }
    }

    @Holds("the terms: no other byte is a blank")
    static void noBlanks() {
        for (int b : new int[] {0, 8, 9, 11, 12, 13, 31, 33, 127, 128, 133, 160, 255}) {
            fault("gaps 1 " + (char) b + ";likes 0;walks 0;", 7);
            fault((char) b + "gaps 1;likes 0;walks 0;", 0);
            fault("gaps 1;likes 0;walks 0;" + (char) b, 23);
        }
    }

    @Holds("the terms: a blank within a word or a number parts it")
    static void partedByABlank() {
        fault("ga ps 1;", 0);
        falls("pla ce", 0);
        falls("1 2", 2);
        falls("n ot 1", 0);
    }

    @Holds("the terms: signs are ( ) ; + - * < = alone: each byte between two numbers")
    static void eachByteBetweenNumbers() {
        for (int b = 0; b < 256; b++) {
            String text = "gaps 1 " + (char) b + " 1;likes 0;walks 0;";
            int got = Check.read(new FerryForAlone(), text);
            boolean joins = b == '+' || b == '-' || b == '*' || b == '<' || b == '=';
            boolean passes = b == ' ' || b == '\n' || b == ';';
            due("byte " + b, got, joins ? 1 : passes ? -109 : -107);
        }
    }

    @Holds("the terms: each byte ahead of a number")
    static void eachByteAheadOfANumber() {
        for (int b = 0; b < 256; b++) {
            int got = Check.read(new FerryForAlone(), "gaps " + (char) b + " 1;likes 0;walks 0;");
            boolean stands = b == ' ' || b == '\n' || b == '-';
            int due = stands ? 1 : b == '(' ? -108 : b >= '0' && b <= '9' ? -107 : -105;
            due("byte " + b, got, due);
        }
    }

    @Holds("the terms: each byte ahead of a text")
    static void eachByteAheadOfAText() {
        for (int b = 0; b < 256; b++) {
            int got = Check.read(new FerryForAlone(), (char) b + " gaps 1;likes 0;walks 0;");
            due("byte " + b, got, b == ' ' || b == '\n' ? 1 : -100);
        }
    }

    // ---- the grammar

    @Holds("the terms: a text is gaps, likes, walks, in this order, each with an E and a ;")
    static void parts() {
        fault("likes 0;gaps 0;walks 0;", 0);
        fault("gaps 0;walks 0;likes 0;", 7);
        fault("gaps 0;likes 0;gaps 0;", 15);
        fault("gaps 0;gaps 0;walks 0;", 7);
        fault("gaps 0;likes 0;likes 0;", 15);
        fault("gaps;likes 0;walks 0;", 4);
        fault("gaps 0;likes;walks 0;", 12);
        fault("gaps 0;likes 0;walks;", 20);
        fault("gaps 0 likes 0;walks 0;", 7);
        fault("gaps 0;likes 0 walks 0;", 15);
        fault(";gaps 0;likes 0;walks 0;", 0);
        fault("place", 0);
        fault("7", 0);
    }

    @Holds("the terms: nothing stands behind the third ;")
    static void nothingBehind() {
        fault("gaps 0;likes 0;walks 0;;", 23);
        fault("gaps 0;likes 0;walks 0; gaps 0;", 24);
        fault("gaps 0;likes 0;walks 0;0", 23);
        fault("gaps 0;likes 0;walks 0;place", 23);
        fault("gaps 0;likes 0;walks 0;)", 23);
        fault("gaps 0;likes 0;walks 0;12345", 23);
        fault("gaps 0;likes 0;walks 0;xyz", 23);
        fault("gaps 0;likes 0;walks 0;and", 23);
        due("blanks may", Check.read(new FerryForAlone(), "gaps 0;likes 0;walks 0; \n "), 1);
    }

    @Holds("the terms: a text that ends too early has its fault at its size")
    static void tooEarly() {
        String text = "gaps ( 1 ) + - 2 * more < 3 or not 4 and 5 = 6 ; likes 7 ; walks 8 ;";
        int[] ends = {0, 4, 6, 8, 10, 12, 14, 16, 18, 23, 25, 27, 30, 34, 36, 40, 42, 44, 46, 48, 54, 56, 58, 64, 66};
        for (int end : ends) {
            fault(text.substring(0, end), end);
            fault(text.substring(0, end) + "  ", end + 2);
        }
        due("the whole of it", Check.read(new FerryForAlone(), text), 1);
    }

    @Holds("the terms: AND { or AND }: one, two, three")
    static void or() {
        says("0 or 0", 0);
        says("0 or 5", 1);
        says("1 or 2", 1);
        says("5 or 0", 1);
        says("-1 or 0", 1);
        says("0 or 0 or 0", 0);
        says("0 or 0 or 7", 1);
        falls("or 1", 0);
        falls("1 or", 4);
        falls("1 or or 1", 5);
        falls("1 or and 1", 5);
    }

    @Holds("the terms: NOT { and NOT }: one, two, three; and ahead of or")
    static void and() {
        says("5 and 6", 1);
        says("1 and 2", 1);
        says("5 and 0", 0);
        says("0 and 5", 0);
        says("-1 and 1", 1);
        says("1 and 1 and 0", 0);
        says("1 and 1 and 7", 1);
        says("1 or 0 and 0", 1);
        says("0 and 0 or 1", 1);
        says("(1 or 0) and 0", 0);
        falls("and 1", 0);
        falls("1 and", 5);
        falls("1 and or 1", 6);
    }

    @Holds("the terms: not NOT, of a whole comparison, ahead of and")
    static void not() {
        says("not 0", 1);
        says("not 1", 0);
        says("not 5", 0);
        says("not -1", 0);
        says("not not 5", 1);
        says("not not 0", 0);
        says("not 2<1", 1);
        says("not 0=1", 1);
        says("not 1+-1", 1);
        says("not 1 and 0", 0);
        says("not 0 and 0", 0);
        says("not 1 or 1", 1);
        falls("not", 3);
        falls("not or 1", 4);
    }

    @Holds("the terms: a not stands ahead of a NOT alone")
    static void notWhere() {
        falls("1+not 1", 2);
        falls("1-not 1", 2);
        falls("1*not 1", 2);
        falls("-not 1", 1);
        falls("1<not 1", 2);
        falls("1=not 1", 2);
        falls("1 not 1", 2);
        stands("1+(not 1)");
        stands("1<(not 1)");
    }

    @Holds("the terms: a SUM, perhaps < or = and a SUM, and no third one")
    static void comparison() {
        says("1<2", 1);
        says("2<2", 0);
        says("3<2", 0);
        says("-1<0", 1);
        says("2=2", 1);
        says("1=2", 0);
        says("2=1", 0);
        says("1+1=4-2", 1);
        says("1<1+1", 1);
        says("(1<2)<2", 1);
        falls("1<2<3", 3);
        falls("1=2=3", 3);
        falls("1<2=3", 3);
        falls("1=2<3", 3);
        falls("<1", 0);
        falls("=1", 0);
        falls("1<", 2);
        falls("1<=2", 2);
        falls("1==2", 2);
    }

    @Holds("the terms: TERM { + or - TERM }, one behind the other")
    static void sum() {
        says("1+2", 3);
        says("1-2", -1);
        says("9-3-2", 4);
        says("9-3+2", 8);
        says("9-(3+2)", 4);
        says("1+2*3", 7);
        says("2*3-1", 5);
        falls("+1", 0);
        falls("1+", 2);
        falls("1++1", 2);
        falls("1-+1", 2);
        stands("1+-1");
        says("1--1", 2);
    }

    @Holds("the terms: ONE { * ONE }")
    static void term() {
        says("2*3", 6);
        says("2*3*4", 24);
        says("2*-3", -6);
        says("-2*-3", 6);
        says("0*5", 0);
        falls("*1", 0);
        falls("1*", 2);
        falls("1**1", 2);
        falls("1*+1", 2);
    }

    @Holds("the terms: ONE is a NUMBER, a NAME, - ONE, ( E )")
    static void one() {
        says("7", 7);
        says("more", 4);
        says("-more", -4);
        says("--more", 4);
        says("-(more)", -4);
        says("(more)", 4);
        says("(1 or 2)", 1);
        says("-(1<2)", -1);
        falls("()", 1);
        falls("(1", 2);
        falls("1)", 1);
        falls("(1))", 3);
        falls("(1;", 2);
        falls("(1 1)", 3);
        falls("-", 1);
        falls("(-)", 2);
        falls("(", 1);
        falls(")", 0);
    }

    @Holds("the terms: names are place waited hour seen fetched more, each what it is")
    static void names() {
        int[] values = {7, 3, 12, 2, 1, 4};
        for (int i = 0; i < NAMES.length; i++) {
            says(NAMES[i], values[i]);
        }
    }

    @Holds("the terms: a name may stand in each part, where a key may not")
    static void namesAndKeys() {
        for (String name : NAMES) {
            FerryForAlone x = new FerryForAlone();
            due(name, Check.read(x, "gaps " + name + ";likes " + name + ";walks " + name + ";"), 1);
            fault(name + " 1;", 0);
        }
        for (String key : KEYS) {
            falls(key + ";", key.equals("not") ? 3 : 0);
            falls("1+" + key, 2);
            falls("1 " + key, key.equals("or") || key.equals("and") ? 2 + key.length() : 2);
        }
    }

    @Holds("the terms: place is 0, if at none: over, and in the boat")
    static void placeAtNone() {
        FerryForAlone x = scene("gaps 0;likes place+50;walks 0;");
        due("at 7", x.asks(1, 1), 57);
        due("in the boat", x.asks(1, 0), 50);
        x.put(1, 0, -1);
        due("over", x.asks(1, 1), 50);
        x.put(1, 0, 0);
        due("at 0", x.asks(1, 1), 50);
        x.put(1, 0, 49);
        due("at 49", x.asks(1, 1), 99);
    }

    @Holds("the terms: waited 0 .. 99, more 0 .. 9, of one who is asked for")
    static void ofOne() {
        FerryForAlone x = Check.under("gaps 0;likes waited;walks more;", 0, 0, 9, 9);
        x.put(1, 2, 99);
        due("waited of 0", x.asks(1, 0), 0);
        due("waited of 1", x.asks(1, 1), 99);
        due("more of 0", x.asks(2, 0), 0);
        due("more of 1", x.asks(2, 1), 9);
    }

    @Holds("the terms: hour 0 .. 9999, of the strand")
    static void hourOfTheStrand() {
        FerryForAlone x = Check.under("gaps 0;likes 0;walks hour-9990;", 0, 0);
        x.bay(0, 9999);
        due("9999", x.asks(2, 0), 9);
        x.bay(0, 0);
        due("0", x.asks(2, 0), -99);
    }

    @Holds("the terms: seen is how many are seen: none, all six; oneself, too")
    static void howManyAreSeen() {
        FerryForAlone x = Check.under("gaps 0;likes seen;walks 0;", 0, 0, 0, 0, 0, 0, 0, 0, 0, 0, 0, 0);
        due("all six", x.asks(1, 0), 6);
        x.put(0, 1, 1);
        due("one hidden", x.asks(1, 0), 5);
        x.put(1, 0, -1);
        due("one over", x.asks(1, 0), 4);
        for (int p = 2; p < 6; p++) {
            x.put(p, 0, -1);
        }
        due("none", x.asks(1, 0), 0);
    }

    @Holds("the terms: an E wraps at 32 bits")
    static void wrapping() {
        says("4096*4096*128<0", 1);
        says("4096*4096*128-1<0", 0);
        says("-4096*4096*128-1<0", 0);
        says("4096*4096*256", 0);
        says("4096*4096*256+6", 6);
        says("-(4096*4096*128)<0", 1);
        says("(4096*4096*128-1+1)<0", 1);
        says("9999*9999*9999<0", 1);
    }

    @Holds("the terms: of or, and, not, <, = 1 or 0")
    static void oneOrNone() {
        says("(2 or 3)+(2 and 3)+(not 0)+(2<3)+(3=3)", 5);
        says("(0 or 0)+(2 and 0)+(not 7)+(3<3)+(2=3)", 0);
    }

    @Holds("the terms: gaps 0 .. 99, else the bound")
    static void gapsBound() {
        String[] e = {"0-1", "0", "1", "98", "99", "100", "9999", "-9999", "4096*4096*128", "4096*4096*128-1"};
        int[] gaps = {0, 0, 1, 98, 99, 99, 99, 0, 0, 99};
        for (int i = 0; i < e.length; i++) {
            due(e[i], Check.under("gaps " + e[i] + REST, 0, 0).asks(0, 0), gaps[i]);
        }
    }

    @Holds("the terms: likes, walks -99 .. 99, else the bound")
    static void likesAndWalksBound() {
        String[] e = {"-98", "-99", "-100", "98", "99", "100", "9999", "-9999", "4096*4096*128", "4096*4096*128-1"};
        int[] said = {-98, -99, -99, 98, 99, 99, 99, -99, -99, 99};
        for (int i = 0; i < e.length; i++) {
            due("likes " + e[i], Check.under("gaps 0;likes " + e[i] + ";walks 0;", 0, 0).asks(1, 0), said[i]);
            due("walks " + e[i], Check.under("gaps 0;likes 0;walks " + e[i] + ";", 0, 0).asks(2, 0), said[i]);
        }
    }

    // ---- the fault

    @Holds("the terms: a word that is neither key nor name: in each letter")
    static void unknownWords() {
        for (String name : NAMES) {
            for (int i = 0; i < name.length(); i++) {
                falls("1+" + name.substring(0, i) + "x" + name.substring(i + 1), 2);
            }
            falls(name.substring(1), 0);
            falls(name.substring(0, name.length() - 1), 0);
            falls(name + "s", 0);
            falls("x" + name, 0);
        }
        for (String key : KEYS) {
            for (int i = 0; i < key.length(); i++) {
                falls("1 " + key.substring(0, i) + "x" + key.substring(i + 1) + " 1", 2);
            }
        }
        for (String part : new String[] {"gaps", "likes", "walks"}) {
            String text = "gaps 0;likes 0;walks 0;";
            int at = text.indexOf(part);
            for (int i = 0; i < part.length(); i++) {
                fault(text.substring(0, at + i) + "x" + text.substring(at + i + 1), at);
            }
        }
    }

    @Holds("the terms: the first of two faults counts, of whichever sort it is")
    static void firstFault() {
        falls("! 12345", 0);
        falls("12345 !", 0);
        falls("1 1 !", 2);
        falls("1 ! 1 1", 2);
        falls("xyz ((((((1", 0);
        falls("((((((1 xyz", 5);
        falls("1 < 2 < 12345", 6);
        falls("1 ) 1 !", 2);
        fault("gaps 1;likes !;walks 12345;", 13);
        fault("gaps ;likes ;walks ;", 5);
    }

    @Holds("the terms: ( while 5 are open")
    static void sixthParenthesis() {
        stands("(((((1)))))");
        falls("((((((1))))))", 5);
        falls("((((( (1)))))", 6);
        falls("1*(((((1+(2", 9);
    }

    @Holds("the terms: not while 5 are open")
    static void sixthNot() {
        stands(times("not ", 5) + "1");
        falls(times("not ", 6) + "1", 20);
        falls(times("not ", 5) + "  not 1", 22);
    }

    @Holds("the terms: - ahead of a ONE while 5 are open")
    static void sixthMinus() {
        stands("-----1");
        falls("------1", 5);
        falls("1*------1", 7);
    }

    @Holds("the terms: ( , not and - are counted together")
    static void openTogether() {
        stands("not (-(-1))");
        falls("not (-(-(1)))", 8);
        falls("not (-(--1))", 8);
        stands("(not (not (1)))");
        falls("(not (not (not 1)))", 11);
        falls("(not (not ((1))))", 11);
        stands("-(-(-1))");
        falls("-(-(--1))", 5);
        falls("-(-(-(1)))", 5);
    }

    @Holds("the terms: the - between two TERMs is not counted")
    static void minusBetween() {
        stands("(((((1-1)))))");
        stands("1-1-1-1-1-1-1-1");
        stands("(((((1-1-1)))))");
        falls("(((((1--1)))))", 7);
        stands("1------1");
        falls("1-------1", 7);
    }

    @Holds("the terms: a ( is open till its ) , and no longer")
    static void openTillClosed() {
        stands("(1)+(1)+(1)+(1)+(1)+(1)+(1)");
        stands("((((1)))+(((1)))+(((1))))");
        stands("(((((1)))))*(((((1)))))");
        falls("((((1)+((1))))", 14);
        falls("(((((1)+(1)+((1", 13);
    }

    @Holds("the terms: a - is open till what it belongs to ends")
    static void minusTillItsOne() {
        stands("-1*-1*-1*-1*-1*-1*-1");
        stands("-1*(((((1)))))");
        stands("-(((1)))*(((((1)))))");
        stands("-1+-1+-1+-1+-1+-1");
        falls("-(((((1)))))", 5);
        stands("-(1*(((1))))");
        falls("-(1*((((1)))))", 7);
    }

    @Holds("the terms: a not is open till what it belongs to ends")
    static void notTillItsNot() {
        stands("not 1 and not 1 and not 1 and not 1 and not 1 and not 1");
        stands("not 1 or (((((1)))))");
        stands("not 1 and (((((1)))))");
        falls("not 1+(((((1)))))", 10);
        falls("not 1<(((((1)))))", 10);
        stands("not 1*----1");
        falls("not 1*-----1", 10);
        stands("not 1<((((1))))");
        falls("(((((not 1)))))", 5);
        stands("((((not 1))))");
    }

    @Holds("the terms: six are not open, if the first ones have ended: in another part")
    static void openInAnotherPart() {
        FerryForAlone x = new FerryForAlone();
        due("text()", Check.read(x, "gaps (((((1)))));likes -----1;walks not not not not not 1;"), 1);
        fault("gaps (((((1;", 11);
        due("behind a fault", Check.read(x, "gaps ((((("), -110);
        due("text()", Check.read(x, "gaps (((((1)))));likes 1;walks 1;"), 2);
    }
}
