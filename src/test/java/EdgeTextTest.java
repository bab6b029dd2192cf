/** The edges of the text of a town, sentence by sentence: section 1 of the document. */
public final class EdgeTextTest {
    private static final int NONE = GiltCockcrow.NONE;
    private static final int FULL = GiltCockcrow.FULL;

    private static final String EIGHT = "n2 0;p0 0 0;p0 0 0;p0 0 0;p0 0 0;p0 0 0;p0 0 0;p0 0 0;p0 0 0;";

    private EdgeTextTest() {
    }

    public static void main(String[] args) {
        textsOf240Letters();
        layersOfATown();
        signOfATown();
        layersComeFirst();
        eightPersons();
        kinds();
        layersOfPersons();
        ears();
        oneToTwelveLights();
        valuesOfLights();
        lightsComeAround();
        lightsUntold();
        figures();
        noFigures();
        words();
        blanksBetween();
        blanksWithin();
        numbersSideBySide();
        lettersForABlank();
        theFirstFault();
        theEnd();
        theEndBehindBlanks();
        theLeastFaultOfALetter();
        lettersThatAreNoWords();
        lettersFirst();
        lettersForASemicolon();
        aThirteenthLight();
        numbersThatComeAround();
        onceTooOften();
        emptyTexts();
        Due.end();
    }

    private static void good(String text, int persons) {
        GiltCockcrow x = new GiltCockcrow();
        Due.due("town() of " + text, Due.townOf(x, text), persons);
        Due.due("fault() of " + text, x.fault(), NONE);
        Due.due("letters behind " + text, x.told(3), 0);
        Due.due("PERSONS of " + text, x.told(2), persons);
    }

    private static void bad(String text, int fault, int place) {
        GiltCockcrow x = new GiltCockcrow();
        Due.due("town() of " + text, Due.townOf(x, text), -10 - fault);
        Due.due("fault() of " + text, x.fault(), place);
        Due.due("letters behind " + text, x.told(3), 0);
        Due.due("N behind " + text, x.told(0), 0);
        Due.due("PERSONS behind " + text, x.told(2), 0);
    }

    private static void textsOf240Letters() {
        Due.sentence("THE TOWN is told in a text (240 letters at most)");
        String most = " ".repeat(233) + "n2 1;m7";
        GiltCockcrow x = new GiltCockcrow();
        for (int i = 0; i < 239; i++) {
            Due.due("feed", x.feed(most.charAt(i)), i + 1);
        }
        Due.due("the 240th letter", x.feed(';'), 240);
        Due.due("a 241st", x.feed('x'), FULL);
        Due.due("letters", x.told(3), 240);
        Due.due("the 240 letters are a town", x.town(), -11);
        Due.due("its fault: the 240th letter is no light", x.fault(), 239);
        Due.feedAll(x, " ".repeat(232) + "n2 1;m7;");
        Due.due("a 241st", x.feed('x'), FULL);
        Due.due("240 good letters, the last is needed", x.town(), 0);
        Due.due("the light that is told at the end", x.told(5), 7);
        Due.due("letters", x.told(3), 0);
        Due.due("the first letter of another text", x.feed('n'), 1);
        x.town();
        Due.feedAll(x, " ".repeat(240));
        Due.due("letters", x.told(3), 240);
        Due.due("240 blanks", x.town(), 0);
        Due.due("no TOWN", x.told(0), 0);
    }

    /** A number in the place of '#': taken from least to most, with a fault at its first figure elsewhere. */
    private static void bounds(String form, int least, int most, int persons) {
        int place = form.indexOf('#');
        int[] values = {0, 1, 2, 3, 4, 5, 6, 7, 8, 9, 10, 11, 12, 19, 20, 90, 99, 100, 255, 256, 900, 998, 999};
        for (int value : values) {
            String[] written = {"" + value, String.format("%02d", value), String.format("%03d", value)};
            for (String number : written) {
                String text = form.replace("#", number);
                if (value >= least && value <= most) {
                    good(text, persons);
                } else {
                    bad(text, 2, place);
                }
            }
        }
    }

    private static void layersOfATown() {
        Due.sentence("(LAYERS 0 .. N less 1, N 2 .. 9; SIGN S, 0 .. N less 1; first, once)");
        bounds("n# 0;", 2, 9, 0);
        bounds(" n  # 0 ;p0 0 0;", 2, 9, 1);
        for (int n = 2; n <= 9; n++) {
            GiltCockcrow x = Due.in("n" + n + " 0;p0 0 0;");
            Due.due("N", x.told(0), n);
            Due.due("the last layer", x.onLayer(n - 1), 0);
            Due.due("one more", x.onLayer(n), GiltCockcrow.UNKNOWN);
        }
    }

    private static void signOfATown() {
        Due.sentence("SIGN S, 0 .. N less 1");
        for (int n = 2; n <= 9; n++) {
            bounds("n" + n + " #;", 0, n - 1, 0);
            for (int s = 0; s < n; s++) {
                Due.due("S", Due.in("n" + n + " " + s + ";").told(1), s);
            }
        }
    }

    private static void layersComeFirst() {
        Due.sentence("first, once)");
        for (String first : new String[] {"p0 0 0;n2 0;", "m1;n2 0;", ";n2 0;", ",n2 0;", "2 0;", "0", "2n2 0;"}) {
            bad(first, 1, 0);
            bad("   " + first, 1, 3);
        }
        bad("n2 0;n2 0;", 3, 5);
        bad("n2 0;p0 0 0;n2 0;", 3, 12);
        bad("n2 0;p0 0 0;m1;  n", 3, 17);
        bad("n2 0; n9 9;", 3, 6);
    }

    private static void eightPersons() {
        Due.sentence("(8 PERSONS at most: KIND K, 0 .. 4; on LAYER X; EAR E, 0 .. 9)");
        StringBuilder text = new StringBuilder("n9 0;");
        for (int many = 0; many <= 8; many++) {
            good(text.toString(), many);
            GiltCockcrow x = Due.in(text.toString());
            for (int p = 0; p < many; p++) {
                Due.due("KIND of " + p, x.person(p, 0), p % 5);
                Due.due("LAYERS of " + p, x.person(p, 1), 1 << 8 - p);
                Due.due("EAR of " + p, x.person(p, 2), p + 2);
            }
            Due.due("there is not " + many, x.person(many, 0), GiltCockcrow.UNKNOWN);
            text.append('p').append(many % 5).append(' ').append(8 - many).append(' ').append((many + 2) % 10).append(';');
        }
        bad(text.toString(), 3, 61);
        good(EIGHT + "m1;", 8);
        bad(EIGHT + "m1;p", 3, 64);
        bad(EIGHT + "  p9", 3, 63);
    }

    private static void kinds() {
        Due.sentence("KIND K, 0 .. 4");
        bounds("n2 0;p# 0 0;", 0, 4, 1);
        bounds(EIGHT.substring(0, EIGHT.length() - 6) + "# 0 0;", 0, 4, 8);
    }

    private static void layersOfPersons() {
        Due.sentence("a LAYER that there is not (at its first)");
        for (int n = 2; n <= 9; n++) {
            bounds("n" + n + " 0;p0 # 0;", 0, n - 1, 1);
            bounds("n" + n + " 0;p0 0 0;m9;p4   # 9;", 0, n - 1, 2);
            for (int x = 0; x < n; x++) {
                Due.due("LAYERS", Due.in("n" + n + " 0;p2 " + x + " 0;").person(0, 1), 1 << x);
            }
        }
    }

    private static void ears() {
        Due.sentence("EAR E, 0 .. 9");
        bounds("n2 0;p0 0 #;", 0, 9, 1);
        bounds("n9 0;p4 8 #;m1;", 0, 9, 1);
        for (int e = 0; e <= 9; e++) {
            Due.due("EAR", Due.in("n2 0;p0 0 " + e + ";").person(0, 2), e);
        }
    }

    private static void oneToTwelveLights() {
        Due.sentence("(DAWNS: 1 to 12 LIGHTS, 1 .. 9: on DAY k the one of k left over by how many; 5 untold; once)");
        bad("n2 0;m;", 1, 6);
        bad("n2 0;m ;", 1, 7);
        StringBuilder text = new StringBuilder("n2 0;m1");
        for (int many = 1; many <= 12; many++) {
            good(text + ";", 0);
            bad(text + ",;", 1, many < 12 ? text.length() + 1 : text.length());
            text.append(",1");
        }
        bad(text + ";", 1, 29);
    }

    private static void valuesOfLights() {
        Due.sentence("1 to 12 LIGHTS, 1 .. 9");
        bounds("n2 0;m#;", 1, 9, 0);
        bounds("n2 0;m#,1;", 1, 9, 0);
        bounds("n2 0;m1,#;", 1, 9, 0);
        bounds("n2 0;m1,1,1,1,1,1,1,1,1,1,1,#;", 1, 9, 0);
    }

    private static void lightsComeAround() {
        Due.sentence("on DAY k the one of k left over by how many");
        String all = "1,9,2,8,3,7,4,6,5,1,2,9";
        for (int many = 1; many <= 12; many++) {
            GiltCockcrow x = Due.in("n2 0;p0 0 9;m" + all.substring(0, 2 * many - 1) + ";");
            for (int day = 0; day <= 3 * many; day++) {
                Due.due("LIGHT of DAY " + day + " of " + many, x.told(5), all.charAt(day % many * 2) - '0');
                x.dawn(1);
            }
        }
    }

    private static void lightsUntold() {
        Due.sentence("5 untold");
        GiltCockcrow x = Due.in("n2 0;p0 0 4;p0 0 5;p0 0 6;");
        for (int day = 0; day < 30; day++) {
            Due.due("LIGHT of DAY " + day, x.told(5), 5);
            x.dawn(1);
            Due.due("an ear of 4", x.person(0, 3), 0);
            Due.due("an ear of 5", x.person(1, 3), day + 1);
            Due.due("an ear of 6", x.person(2, 3), day + 1);
        }
        Due.due("without a TOWN", new GiltCockcrow().told(5), 0);
    }

    private static void figures() {
        Due.sentence("NUMBERS have one to three figures");
        String[] forms = {"n# 0;", "n2 #;", "n2 0;p# 0 0;", "n2 0;p0 # 0;", "n2 0;p0 0 #;", "n2 0;m#;", "n2 0;m1,#;"};
        String[] values = {"2", "1", "1", "1", "1", "1", "1"};
        for (int i = 0; i < forms.length; i++) {
            for (int zeros = 0; zeros <= 9; zeros++) {
                String text = forms[i].replace("#", "0".repeat(zeros) + values[i]);
                if (zeros <= 2) {
                    good(text, forms[i].contains("p") ? 1 : 0);
                } else {
                    bad(text, 2, forms[i].indexOf('#'));
                }
            }
            bad(forms[i].replace("#", "0".repeat(200)), 2, forms[i].indexOf('#'));
            bad(forms[i].replace("#", values[i] + "000"), 2, forms[i].indexOf('#'));
        }
    }

    private static void noFigures() {
        Due.sentence("1 it cannot stand there");
        String[] texts = {
            "n;", "n ;", "n2;", "n2 ;", "n2 0;p;", "n2 0;p ;", "n2 0;p0;", "n2 0;p0 ;", "n2 0;p0 0;", "n2 0;p0 0 ;",
            "n2 0;m;", "n2 0;m1,;", "n2 0;m1, ;",
        };
        for (String text : texts) {
            bad(text, 1, text.length() - 1);
        }
        for (String text : new String[] {"n2 0 1;", "n2 0;p0 0 0 1;", "n2 0;m1 1;"}) {
            bad(text, 1, text.length() - 2);
        }
    }

    private static void words() {
        Due.sentence("a word is one letter");
        bad("nn2 0;", 1, 1);
        bad("n2 0;pp0 0 0;", 1, 6);
        bad("n2 0;mm1;", 1, 6);
        bad("n2 0;;", 1, 5);
        bad("n2 0;m1,,1;", 1, 8);
        bad("n2 0;mp0 0 0;", 1, 6);
        bad("N2 0;", 1, 0);
        bad("n2 0;P0 0 0;", 1, 5);
        bad("n2 0;M1;", 1, 5);
    }

    private static void blanksBetween() {
        Due.sentence("blanks (32) may stand anywhere but within NUMBERS");
        String[] words = {"n", "009", " ", "008", ";", "p", "4", " ", "08", " ", "009", ";", "m", "001", ",", "9", ";"};
        String plain = String.join("", words);
        for (int many = 1; many <= 3; many++) {
            for (int gap = 0; gap <= words.length; gap++) {
                StringBuilder text = new StringBuilder();
                for (int i = 0; i <= words.length; i++) {
                    text.append(i == gap ? " ".repeat(many) : "").append(i < words.length ? words[i] : "");
                }
                good(text.toString(), 1);
                Edge.same("the same town of " + text, Due.in(text.toString()), Due.in(plain));
            }
        }
        Edge.same("blanks everywhere", Due.in("  " + String.join("  ", words) + "  "), Due.in(plain));
    }

    private static void blanksWithin() {
        Due.sentence("anywhere but within NUMBERS");
        bad("n0 09 008;", 2, 1);
        bad("n00 9 008;", 2, 1);
        bad("n009 0 08;", 1, 7);
        bad("n009 00 8;", 1, 8);
        bad("n9 8;p0 04 008 009;", 1, 15);
        bad("n9 8;p00 4 008 009;", 1, 15);
        bad("n9 8;p004 0 08 009;", 1, 15);
        bad("n9 8;p004 00 8 009;", 1, 15);
        bad("n9 8;p004 008 0 09;", 1, 16);
        bad("n9 8;p004 008 00 9;", 1, 17);
        bad("n9 8;m0 01;", 2, 6);
        bad("n9 8;m1,0 09;", 2, 8);
        bad("n9 8;m1 1;", 1, 8);
    }

    private static void numbersSideBySide() {
        Due.sentence("two NUMBERS side by side need one");
        bad("n20;", 2, 1);
        bad("n90;", 2, 1);
        bad("n02;", 1, 3);
        bad("n009008;", 2, 1);
        bad("n2 0;p00 0;", 1, 10);
        bad("n2 0;p0 00;", 1, 10);
        bad("n2 0;p000;", 1, 9);
        bad("n2 0;p0000;", 2, 6);
        bad("n2 0;p10 0;", 2, 6);
        bad("n2 0;p0 10;", 2, 8);
        good("n2 0;p0 1 0;", 1);
    }

    private static void lettersForABlank() {
        Due.sentence("blanks (32)");
        for (int letter = 0; letter <= 255; letter++) {
            String text = "n9" + (char) letter + "0;";
            if (letter == 32) {
                good(text, 0);
            } else if (letter >= '0' && letter <= '9') {
                bad(text, 2, 1);
            } else {
                bad(text, 1, 2);
            }
        }
    }

    private static void theFirstFault() {
        Due.sentence("FAULTS, at the first letter that has one");
        bad("n1 0;n2 0;x", 2, 1);
        bad("n2 5;n2 0;x", 2, 3);
        bad("n2 0;n2 9;x", 3, 5);
        bad("n2 0;m1;m0;x", 3, 8);
        bad(EIGHT + "p5 2 10;x", 3, 61);
        bad("n2 0;x;n1 0;", 1, 5);
        bad("n2 0;p5 2 10;", 2, 6);
        bad("n2 0;p4 2 10;", 2, 8);
        bad("n2 0;p4 1 10;", 2, 10);
        bad("n2 0;m9,0,x;", 2, 8);
        bad("n2 9x", 2, 3);
        bad("n1x", 2, 1);
        bad("n2 0;p5", 2, 6);
    }

    private static void theEnd() {
        Due.sentence("(the end at the text's length)");
        String text = "n9 8;p1 8 9;m1,9;";
        for (int length = 1; length <= text.length(); length++) {
            String begun = text.substring(0, length);
            if (begun.endsWith(";")) {
                good(begun, length > 5 ? 1 : 0);
            } else {
                bad(begun, 1, length);
            }
        }
        bad(" ".repeat(236) + "n2 0", 1, 240);
        bad(" ".repeat(239) + "n", 1, 240);
        bad(" ".repeat(239) + "x", 1, 239);
        bad("n2 0;" + " ".repeat(234) + "n", 3, 239);
        bad("n2 0;" + " ".repeat(233) + "m0", 2, 239);
    }

    private static void theEndBehindBlanks() {
        Due.sentence("the end at the text's length");
        String text = "n9 8;p1 8 9;m1,9;";
        for (int length = 1; length <= text.length(); length++) {
            for (int blanks = 1; blanks <= 3; blanks++) {
                String begun = text.substring(0, length) + " ".repeat(blanks);
                if (text.charAt(length - 1) == ';') {
                    good(begun, length > 5 ? 1 : 0);
                } else {
                    bad(begun, 1, begun.length());
                }
            }
        }
    }

    private static void theLeastFaultOfALetter() {
        Due.sentence("of these the least");
        // a word that comes again where it cannot stand, a number of four figures or out of bounds where none can
        bad("n2 n", 1, 3);
        bad("n2 0n", 1, 4);
        bad("n2 0;p0 n", 1, 8);
        bad("n2 0;m1;p0 m", 1, 11);
        bad("n2 0;m1m", 1, 7);
        bad(EIGHT + "m1p", 1, 63);
        bad(EIGHT + "m1,p", 1, 64);
        bad("1234", 1, 0);
        bad("99", 1, 0);
        bad("n2 0 1234;", 1, 5);
        bad("n2 0 10;", 1, 5);
        bad("n2 0;1234", 1, 5);
        bad("n2 0;p0 0 0 1234;", 1, 12);
        bad("n2 0;p0 0 0 99;", 1, 12);
        bad("n2 0;m1 1234;", 1, 8);
        bad("n2 0;m1,1,1,1,1,1,1,1,1,1,1,1,1234;", 1, 29);
    }

    private static void lettersThatAreNoWords() {
        Due.sentence("a letter that is no word");
        for (int letter = 0; letter <= 255; letter++) {
            String text = "n2 0;" + (char) letter;
            if (letter == ' ') {
                good(text, 0);
            } else if (letter == 'n') {
                bad(text, 3, 5);
            } else if (letter == 'p' || letter == 'm') {
                bad(text, 1, 6);
            } else {
                bad(text, 1, 5);
            }
        }
    }

    private static void lettersFirst() {
        Due.sentence("another word first than 'n'");
        for (int letter = 0; letter <= 255; letter++) {
            String text = "  " + (char) letter;
            if (letter == ' ') {
                good(text, 0);
            } else if (letter == 'n') {
                bad(text, 1, 3);
            } else {
                bad(text, 1, 2);
            }
        }
    }

    private static void lettersForASemicolon() {
        Due.sentence("it cannot stand there");
        for (int letter = 0; letter <= 255; letter++) {
            String text = "n2 0" + (char) letter;
            if (letter == ';') {
                good(text, 0);
            } else if (letter == ' ' || letter == '0' || letter == '1') {
                bad(text, 1, 5);
            } else if (letter >= '2' && letter <= '9') {
                bad(text, 2, 3);
            } else {
                bad(text, 1, 4);
            }
            if (letter != ';' && letter != ' ' && (letter < '0' || letter > '9')) {
                bad("n2 0;p0 1 2" + (char) letter, 1, 11);
            }
        }
        for (int letter = 0; letter <= 255; letter++) {
            String text = "n2 0;m1" + (char) letter;
            if (letter == ';') {
                good(text, 0);
            } else if (letter == ',' || letter == ' ') {
                bad(text, 1, 8);
            } else if (letter < '0' || letter > '9') {
                bad(text, 1, 7);
            } else {
                bad(text, 2, 6);
            }
        }
    }

    private static void aThirteenthLight() {
        Due.sentence("a 13th L: at its ','");
        String twelve = "n2 0;m1,1,1,1,1,1,1,1,1,1,1,9";
        good(twelve + ";", 0);
        good(twelve + " ;", 0);
        bad(twelve, 1, 29);
        bad(twelve + ",", 1, 29);
        bad(twelve + ",1;", 1, 29);
        bad(twelve + "  ,1;", 1, 31);
        bad(twelve + ",0;", 1, 29);
        bad(twelve + ",x", 1, 29);
        bad(twelve + ",;", 1, 29);
        bad(twelve.replace("9", "10") + ",1;", 2, 28);
    }

    /** Long numbers whose lowest 32 bits would be within the bounds. */
    private static void numbersThatComeAround() {
        Due.sentence("2 a NUMBER of four figures or more, or out of its bounds");
        bad("n4294967298 0;", 2, 1);
        bad("n2 4294967296;", 2, 3);
        bad("n2 0;p4294967296 0 0;", 2, 6);
        bad("n2 0;p0 4294967297 0;", 2, 8);
        bad("n2 0;p0 0 4294967305;", 2, 10);
        bad("n2 0;m4294967297;", 2, 6);
        bad("n2 0;m1,18446744073709551617;", 2, 8);
        bad("n1000 0;", 2, 1);
        bad("n9999 0;", 2, 1);
        bad("n0009 0;", 2, 1);
        bad("n999 0;", 2, 1);
    }

    private static void onceTooOften() {
        Due.sentence("3 'n', 'm' again, a ninth 'p' (at it)");
        bad("n2 0;n", 3, 5);
        bad("n2 0;  n2 0;", 3, 7);
        bad("n2 0;m1;m", 3, 8);
        bad("n2 0;m1;m1;", 3, 8);
        bad("n2 0;m1;p0 0 0; m1;", 3, 16);
        bad(EIGHT + "p", 3, 61);
        bad(EIGHT + "p0 0 0;", 3, 61);
        bad(EIGHT + "m1; p0 0 0;", 3, 65);
        bad(EIGHT + "m1;m", 3, 64);
        bad(EIGHT + "n", 3, 61);
        // what a text with a fault has told is not counted in the next one
        GiltCockcrow x = new GiltCockcrow();
        Due.due("m, and a fault", Due.townOf(x, "n2 0;m1;m"), -13);
        Due.due("m once", Due.townOf(x, "n2 0;m1;"), 0);
        Due.due("nine persons", Due.townOf(x, EIGHT + "p"), -13);
        Due.due("eight persons", Due.townOf(x, EIGHT), 8);
        Due.due("eight persons again", Due.townOf(x, EIGHT + "m3;"), 8);
    }

    private static void emptyTexts() {
        Due.sentence("An empty text (or one of blanks alone): no TOWN.");
        for (int blanks : new int[] {0, 1, 2, 239, 240}) {
            GiltCockcrow x = new GiltCockcrow();
            Due.due("town() of a new object", Due.townOf(x, " ".repeat(blanks)), 0);
            Edge.same("as a new object", x, new GiltCockcrow());
            GiltCockcrow y = Edge.busy();
            y.town();
            y.dawn(3);
            y.keep(0);
            y.keep(1);
            y.crow(1);
            y.seed(0);
            Due.due("town() behind another town", Due.townOf(y, " ".repeat(blanks)), 0);
            Due.due("fault()", y.fault(), NONE);
            Edge.same("as a new object, too", y, new GiltCockcrow());
            Due.due("dawn(1)", y.dawn(1), GiltCockcrow.NOT);
            Due.due("wipe()", y.wipe(), GiltCockcrow.NOT);
            Due.due("asNow()", y.asNow(), GiltCockcrow.NOT);
            Due.due("together(0)", y.together(0), GiltCockcrow.NOT);
            Due.due("undo()", y.undo(), GiltCockcrow.NOT);
            Due.due("goBack(0)", y.goBack(0), GiltCockcrow.NOT);
            Due.due("goBack(1)", y.goBack(1), GiltCockcrow.NOT);
            Due.due("person(0, 0)", y.person(0, 0), GiltCockcrow.UNKNOWN);
            Due.due("onLayer(0)", y.onLayer(0), GiltCockcrow.UNKNOWN);
            Due.due("another town", Due.townOf(y, "n2 0;p0 1 0;"), 1);
        }
    }
}
