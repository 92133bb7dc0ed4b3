/** The bounds of the tape, of TEXTS and of FAULTS (promises 2 to 6): the last that is taken, the first that is refused. */
public final class TextBoundsTest {
    private static final int MIN = Integer.MIN_VALUE;
    private static final int MAX = Integer.MAX_VALUE;

    private TextBoundsTest() {
    }

    public static void main(String[] args) {
        feedUpTo300();
        refusedFeedBringsNone();
        feedPutsTheHighestByteFirst();
        endOfWhatThereIs();
        textOf300Bytes();
        textOfNoBytes();
        textsUpToFour();
        faultAskedFor();
        numbersOfClauses();
        shiftsBelowLift();
        numbersTooLongForAnInt();
        entriesUpToEight();
        rowsUpToFour();
        clausesTwice();
        rowsOfUnlikeLength();
        signsBesideThoseOfTokens();
        tokensWithoutBlanks();
        tokensThatCantStandThere();
        theEndThatCantStandThere();
        theFirstFaultAndTheLeast();
        loadOfTexts();
        loadedSizes();
        Due.end();
    }

    private static String blanks(int many) {
        return " ".repeat(many);
    }

    /** FAULT 0: the text is taken. */
    private static void reads(String text, int fault, int place) {
        LiftedChecks x = new LiftedChecks();
        Tape.put(x, text);
        String told = text.replace('\n', '|');
        Due.is("bytes of " + told, x.about(2), text.length());
        Due.is("text of " + told, x.text(), fault == 0 ? 0 : -1);
        Due.is("fault(0) of " + told, x.fault(0), fault);
        Due.is("fault(1) of " + told, x.fault(1), place);
        Due.is("tape behind " + told, x.about(2), 0);
        Due.is("texts behind " + told, x.about(0), fault == 0 ? 1 : 0);
        Due.is("load of " + told, x.load(0) >= 1, fault == 0);
    }

    private static void isTaken(String text) {
        reads(text, 0, -1);
    }

    private static void feedUpTo300() {
        LiftedChecks x = new LiftedChecks();
        for (int n = 1; n <= 15; n++) {
            Due.is("feed " + n, x.feed(0, 0, 0, 0, 0), 20 * n);
            Due.is("tape", x.about(2), 20 * n);
        }
        Due.is("feed beyond 300", x.feed(0, 0, 0, 0, 0), -1);
        Due.is("tape stays", x.about(2), 300);
        int[] lengths = {299, 290, 281, 280};
        for (int length : lengths) {
            Due.is("end", x.end(length), length);
            Due.is("feed behind " + length, x.feed(0, 0, 0, 0, 0), length == 280 ? 300 : -1);
            Due.is("tape", x.about(2), length == 280 ? 300 : length);
        }
        x.end(279);
        Due.is("feed behind 279", x.feed(0, 0, 0, 0, 0), 299);
    }

    private static void refusedFeedBringsNone() {
        LiftedChecks x = new LiftedChecks();
        Tape.put(x, blanks(275) + "row 0;");
        Due.is("281 bytes", x.about(2), 281);
        Due.is("refused", x.feed(-1, -1, -1, -1, -1), -1);
        Due.is("none came", x.about(2), 281);
        Due.is("end beyond it", x.end(282), -1);
        Due.is("the text is as it was", x.text(), 0);
    }

    private static void feedPutsTheHighestByteFirst() {
        LiftedChecks x = new LiftedChecks();
        Due.is("feed", x.feed(0x726f7720, 0x302e2030, 0x3b6d6f73, 0x7420330a, 0x31202020), 20);
        x.text();
        Due.is("two numbers", x.fault(0), 1);
        Due.is("the second one", x.fault(1), 16);
        x.feed(0x726f7720, 0x302e2030, 0x3b6d6f73, 0x74203320, 0x20203b20);
        Due.is("text", x.text(), 0);
        Due.is("load", x.load(0), 3);
        Due.is("most", x.is(4), 3);
        Due.is("EMPTY", x.shift(0, 1), -1);
        // the highest bit of a number is one of a byte as any other
        x.feed(0x726f7720, 0x303be920, 0, 0, 0);
        x.text();
        Due.is("a byte above 127", x.fault(1), 6);
        for (int place = 0; place < 20; place++) {
            int[] n = {0x20202020, 0x20202020, 0x20202020, 0x20202020, 0x20202020};
            n[place / 4] ^= 0x80 << 24 - 8 * (place % 4);
            x.feed(n[0], n[1], n[2], n[3], n[4]);
            x.text();
            Due.is("fault", x.fault(0), 1);
            Due.is("place of byte " + place, x.fault(1), place);
        }
    }

    private static void endOfWhatThereIs() {
        LiftedChecks x = new LiftedChecks();
        Due.is("end(0) of none", x.end(0), 0);
        Due.is("end(1) of none", x.end(1), -1);
        x.feed(0, 0, 0, 0, 0);
        int[] refused = {21, 300, 301, MAX, -1, MIN};
        for (int n : refused) {
            Due.is("end(" + n + ")", x.end(n), -1);
            Due.is("tape stays", x.about(2), 20);
        }
        Due.is("end(20)", x.end(20), 20);
        Due.is("tape", x.about(2), 20);
        Due.is("end(19)", x.end(19), 19);
        Due.is("what is gone is gone", x.end(20), -1);
        Due.is("end(1)", x.end(1), 1);
        Due.is("end(0)", x.end(0), 0);
        Due.is("tape", x.about(2), 0);
        x.feed(0x726f7720, 0x303b7878, 0, 0, 0);
        x.end(6);
        x.feed(0x0a6f6666, 0x73657420, 0x303b7878, 0, 0);
        x.end(16);
        Due.is("the first bytes, then what came", x.text(), 0);
        x.load(0);
        Due.is("offset", x.is(3), 0);
    }

    private static void textOf300Bytes() {
        isTaken(blanks(294) + "row 0;");
        isTaken("row 0;" + blanks(294));
        isTaken("row" + blanks(148) + "0" + blanks(147) + ";");
        isTaken("row " + "0".repeat(1) + blanks(294) + ";");
        reads("a".repeat(300), 1, 0);
        reads("row 0;" + "b".repeat(294), 1, 6);
        reads("9".repeat(300), 1, 0);
        reads("row " + "9".repeat(296), 2, 4);
        reads("row 0;" + blanks(293) + "x", 1, 299);
        reads("row 0" + blanks(295), 1, 300);
        reads("row" + blanks(297), 1, 300);
        reads(blanks(300), 1, 300);
        reads(blanks(295) + "row 0", 1, 300);
        reads(blanks(296) + "most", 1, 300);
        reads("row 0; row 0 ." + blanks(285) + ";", 5, 299);
    }

    private static void textOfNoBytes() {
        reads("", 1, 0);
        reads(" ", 1, 1);
        reads("\n", 1, 1);
        LiftedChecks x = new LiftedChecks();
        Tape.put(x, "row 0;");
        x.text();
        Due.is("text of the tape that is empty then", x.text(), -1);
        Due.is("its fault", x.fault(0), 1);
        Due.is("its place", x.fault(1), 0);
        Due.is("texts", x.about(0), 1);
    }

    private static void textsUpToFour() {
        LiftedChecks x = new LiftedChecks();
        for (int n = 0; n < 4; n++) {
            if (n == 3) {
                x.image();
            }
            Tape.put(x, "row" + " 0".repeat(n + 1) + ";");
            Due.is("text " + n, x.text(), n);
            Due.is("texts", x.about(0), n + 1);
            Due.is("tape", x.about(2), 0);
            Due.is("fault", x.fault(0), 0);
            Due.is("place", x.fault(1), -1);
            Tape.put(x, "row x");
            Due.is("a faulty one", x.text(), -1);
            Due.is("its fault", x.fault(0), n == 3 ? 0 : 1);
            Due.is("its tape", x.about(2), n == 3 ? 5 : 0);
            Due.is("texts", x.about(0), n + 1);
        }
        Tape.put(x, "row 0 0 0 0 0;");
        Due.is("a fifth", x.text(), -1);
        Due.is("the tape stays", x.about(2), 14);
        Due.is("texts", x.about(0), 4);
        Due.is("it wasn't read", x.fault(0), 0);
        for (int n = 0; n < 4; n++) {
            Due.is("each is its own", x.load(n), n + 1);
        }
        x.back();
        Due.is("three again", x.about(0), 3);
        Due.is("the tape that stayed", x.text(), 3);
        Due.is("its code", x.load(3), 5);
    }

    private static void faultAskedFor() {
        LiftedChecks x = new LiftedChecks();
        int[] all = {-2, -1, 0, 1, 2, 3, MIN, MAX};
        for (int what : all) {
            Due.is("fault ahead of any: " + what, x.fault(what), -1);
        }
        Tape.put(x, "row 0 0; row 0;");
        Due.is("no text is read yet", x.fault(0), -1);
        x.text();
        for (int what : all) {
            Due.is("fault " + what, x.fault(what), what == 0 ? 5 : what == 1 ? 14 : -1);
        }
        Tape.put(x, "row 0 0;");
        Due.is("as of the latest that was read", x.fault(0), 5);
        x.text();
        for (int what : all) {
            Due.is("without a fault " + what, x.fault(what), what == 0 ? 0 : -1);
        }
    }

    private static void numbersOfClauses() {
        String[] words = {"lift", "offset", "most"};
        int[] low = {1, 0, 1};
        int[] high = {6, 9, 31};
        for (int k = 0; k < 3; k++) {
            for (int n = 0; n <= 40; n++) {
                boolean told = n >= low[k] && n <= high[k];
                reads(words[k] + " " + n + "; row 0;", told ? 0 : 2, told ? -1 : words[k].length() + 1);
            }
            reads(words[k] + " 100; row 0;", 2, words[k].length() + 1);
            reads(words[k] + " ; row 0;", 1, words[k].length() + 1);
            reads(words[k] + " . ; row 0;", 1, words[k].length() + 1);
            reads(words[k] + " 1 1; row 0;", 1, words[k].length() + 3);
            LiftedChecks x = Tape.coded(words[k] + " " + low[k] + "; row 0;");
            Due.is("the least " + words[k], x.is(k == 0 ? 0 : k + 2), low[k]);
            x = Tape.coded(words[k] + " " + high[k] + "; row 0;");
            Due.is("the greatest " + words[k], x.is(k == 0 ? 0 : k + 2), high[k]);
        }
    }

    private static void shiftsBelowLift() {
        for (int lift = 1; lift <= 6; lift++) {
            for (int shift = 0; shift <= 7; shift++) {
                String text = "lift " + lift + "; row " + shift + ";";
                reads(text, shift < lift ? 0 : 2, shift < lift ? -1 : 12);
                if (shift < lift) {
                    Due.is("shift", Tape.coded(text).shift(0, 0), shift);
                }
            }
        }
        isTaken("row 0;");
        reads("row 1;", 2, 4);
        reads("lift 3; row 0; row 3;", 2, 19);
        reads("lift 3; row . 2 3;", 2, 16);
        reads("row 10;", 2, 4);
    }

    private static void numbersTooLongForAnInt() {
        String[] numbers = {"2147483647", "2147483648", "4294967296", "4294967297", "18446744073709551616",
            "18446744073709551617", "1" + "0".repeat(200)};
        for (String number : numbers) {
            reads("lift " + number + "; row 0;", 2, 5);
            reads("offset " + number + "; row 0;", 2, 7);
            reads("most " + number + "; row 0;", 2, 5);
            reads("row " + number + ";", 2, 4);
        }
    }

    private static void entriesUpToEight() {
        for (int many = 1; many <= 8; many++) {
            LiftedChecks x = Tape.coded("row" + " 0".repeat(many) + ";");
            Due.is("columns", x.is(2), many);
            isTaken("row" + " .".repeat(many) + ";");
        }
        reads("row ;", 1, 4);
        reads("row" + " 0".repeat(9) + ";", 3, 20);
        reads("row" + " .".repeat(9) + ";", 3, 20);
        reads("row" + " 0".repeat(8) + "\n\n.;", 3, 21);
        reads("row" + " 0".repeat(8) + " 1;", 2, 20);
        reads("row" + " 0".repeat(8) + " row", 1, 20);
        reads("row" + " 0".repeat(8) + " ,", 1, 20);
        reads("row" + " 0".repeat(8) + " ", 1, 20);
        reads("row 0; row" + " 0".repeat(8) + ";", 5, 26);
        reads("row 0; row" + " 0".repeat(9) + ";", 3, 27);
    }

    private static void rowsUpToFour() {
        for (int many = 1; many <= 4; many++) {
            Due.is("rows", Tape.coded("row 0 .;".repeat(many)).is(1), many);
        }
        reads("row 0;".repeat(5), 3, 24);
        reads("row 0;".repeat(4) + "\n row", 3, 26);
        reads("row 0;".repeat(4) + "row 9 9;", 3, 24);
        reads("row 0;".repeat(4) + "most 2; row", 3, 32);
        isTaken("row 0;".repeat(4) + "most 2; offset 2;");
        reads("row 0;".repeat(4) + "lift 2;", 4, 24);
        reads("row 0;".repeat(4) + ";", 1, 24);
        reads("lift 2;", 1, 7);
        reads("offset 2;", 1, 9);
        reads("lift 2; offset 2; most 2;", 1, 25);
    }

    private static void clausesTwice() {
        isTaken("lift 2; row 0;");
        reads("lift 2; lift 2; row 0;", 4, 8);
        reads("row 0; lift 2;", 4, 7);
        reads("offset 1; lift 2; row 0;", 4, 10);
        reads("most 1; lift 2; row 0;", 4, 8);
        reads("row 0; lift", 4, 7);
        isTaken("offset 1; row 0;");
        isTaken("row 0; offset 1;");
        reads("offset 1; offset 1; row 0;", 4, 10);
        reads("offset 0; offset 0; row 0;", 4, 10);
        reads("offset 1; row 0; offset", 4, 17);
        isTaken("most 1; row 0; offset 1; row 0;");
        reads("most 1; most 1; row 0;", 4, 8);
        reads("most 15; row 0; most", 4, 16);
    }

    private static void rowsOfUnlikeLength() {
        isTaken("row 0 0; row . .; row 0 .; row . 0;");
        reads("row 0 0; row 0;", 5, 14);
        reads("row 0 0; row 0 0 0;", 5, 18);
        reads("row 0 0; row 0 0; row 0 0; row 0;", 5, 32);
        reads("row 0 0; row 0 \n;", 5, 16);
        reads("row 0 0 0 0 0 0 0 0; row 0 0 0 0 0 0 0;", 5, 38);
        // as the first one, not as the one ahead
        reads("row 0 0; row 0 0; row 0 0 0;", 5, 27);
        reads("row 0 0; row 0", 1, 14);
        reads("row 0 0; row ;", 1, 13);
    }

    private static void signsBesideThoseOfTokens() {
        int[] none = {0, 1, 9, 11, 13, 31, 33, 44, 45, 47, 58, 60, 64, 65, 82, 90, 91, 95, 96, 123, 127, 128, 138, 160, 174,
            187, 224, 255};
        for (int sign : none) {
            char c = (char) sign;
            reads("row 0;" + c, 1, 6);
            reads("row" + c + "0;", 1, 3);
            reads("row 0" + c + ";", 1, 5);
            reads(c + "row 0;", 1, 0);
            reads("ro" + c + "w 0;", 1, 0);
        }
        // a word that can't stand there comes ahead of the sign behind it
        reads("ro?w 0;", 1, 0);
        isTaken(" \n row \n\n 0 \n ; \n ");
        String[] words = {"a", "z", "ro", "rox", "rowa", "rowz", "arow", "rov", "sow", "lif", "lifts", "offse", "offsets",
            "mos", "mosts", "m"};
        for (String word : words) {
            reads("row 0; " + word + " 1;", 1, 7);
        }
    }

    private static void tokensWithoutBlanks() {
        LiftedChecks x = Tape.coded("lift6;row5.0..05;offset9;most31;row......;");
        Due.is("columns", x.is(2), 6);
        Due.is("digits behind one another are one", x.shift(0, 5), 5);
        Due.is("EMPTY", x.shift(0, 4), -1);
        x = Tape.coded("lift 6;row 0 5;");
        Due.is("digits apart are two", x.is(2), 2);
        reads("lift 2;row 1 0 11;", 2, 15);
        reads("row0;row0 0;", 5, 11);
        reads("r ow 0;", 1, 0);
        reads("lift 1 2;row 0;", 1, 7);
    }

    private static void tokensThatCantStandThere() {
        reads(";", 1, 0);
        reads(".", 1, 0);
        reads("0", 1, 0);
        reads("row 0;;", 1, 6);
        reads("row 0;.", 1, 6);
        reads("row 0;0", 1, 6);
        reads("row 0 most 1;", 1, 6);
        reads("row row 0;", 1, 4);
        reads("row most", 1, 4);
        reads("most most", 1, 5);
        reads("offset offset 1;", 1, 7);
        reads("lift lift 1;", 1, 5);
        reads("most 1 row 0;", 1, 7);
        reads("most 1 . row 0;", 1, 7);
        reads("lift 1 x", 1, 7);
    }

    private static void theEndThatCantStandThere() {
        String[] texts = {"row", "row ", "row 0", "row 0 ", "row 0 .\n", "lift", "lift 2", "lift 2;", "offset", "offset 3",
            "most ", "most 3 ", "row 0; row", "row 0; row 0", "row 0; most", "row 0; most 3"};
        for (String text : texts) {
            reads(text, 1, text.length());
        }
    }

    private static void theFirstFaultAndTheLeast() {
        reads("lift 7; row x", 2, 5);
        reads("row 0 x; lift 2;", 1, 6);
        reads("row 0; row 0 0; lift 2;", 5, 14);
        reads("row 0; lift 9;", 4, 7);
        reads("offset 1; offset 99;", 4, 10);
        reads("lift 2; row 2 0; row 0;", 2, 12);
        reads("row 0;".repeat(4) + "row 0 0;", 3, 24);
        // a NUMBER where none can stand is the least of both
        reads("row 0; 99;", 1, 7);
        reads("most 3 99;", 1, 7);
    }

    private static void loadOfTexts() {
        LiftedChecks x = new LiftedChecks();
        int[] refused = {-2, -1, 0, 1, 3, 4, MIN, MAX};
        for (int text : refused) {
            Due.is("load of none: " + text, x.load(text), -1);
        }
        Tape.put(x, "row 0;");
        x.text();
        Due.is("load(0)", x.load(0), 1);
        Due.is("load(1)", x.load(1), -1);
        for (int n = 1; n < 4; n++) {
            Tape.put(x, "row" + " 0".repeat(n + 1) + ";");
            x.text();
            Due.is("load(" + n + ")", x.load(n), n + 1);
            Due.is("load(" + (n + 1) + ")", x.load(n + 1), -1);
            Due.is("the code stays", x.is(2), n + 1);
        }
        Due.is("load(-1)", x.load(-1), -1);
        Due.is("load(MAX)", x.load(MAX), -1);
        Due.is("load(MIN)", x.load(MIN), -1);
        Due.is("steps that were taken", x.about(1), 4);
        Due.is("one twice", x.load(3), 4);
        Due.is("one twice", x.load(3), 4);
        Due.is("steps", x.about(1), 6);
    }

    private static void loadedSizes() {
        LiftedChecks x = Tape.coded("row .;");
        Due.is("the least code", x.load(0), 1);
        Due.is("its CHECK", x.has(0, -1), 0);
        Due.is("no other", x.has(1, -1), -1);
        x = Tape.coded("lift 6;" + "row 0 1 2 3 4 5 0 1;".repeat(4));
        Due.is("the greatest code", x.load(0), 48);
        Due.is("its last CHECK", x.has(23, -1), 8);
        Due.is("no other", x.has(24, -1), -1);
        Due.is("its last BIT", x.degree(47), 4);
        Due.is("no other", x.degree(48), -1);
        x = Tape.coded("lift 6; row 0 1 2 3 4 5; row 5 4 3 2 1 0;");
        // the i-th CHECK HAS the BIT (i and SHIFT) mod LIFT
        for (int i = 0; i < 6; i++) {
            for (int column = 0; column < 6; column++) {
                Due.is("round", x.has(i, column), column * 6 + (i + column) % 6);
                Due.is("round", x.has(6 + i, column), column * 6 + (i + 5 - column) % 6);
            }
        }
    }
}
