/** One method for each promise of the document, told by hand: ordinary calls, edges, and what is "for others". */
public final class PromisesTest {
    private static final int MIN = Integer.MIN_VALUE;
    private static final int MAX = Integer.MAX_VALUE;

    /** CHECKS 0 (BITS 0 3), 1 (1 2), 2 (1 4), 3 (0 5). WORDS: 0, 22 (1 2 4), 41 (0 3 5), 63. */
    private static final String PAIRS = "lift 2; row 0 1 .; row 1 . 0; offset 0; most 7;";
    /** Three CHECKS in a ring of length 6: BITS 0 1, 1 2, 0 2. */
    private static final String TRIANGLE = "row 0 0 .; row . 0 0; row 0 . 0;";
    /** Two CHECKS that both have all three BITS. */
    private static final String DOUBLE = "row 0 0 0; row 0 0 0;";
    /** BITS 0 and 1 are loose; CHECKS 0, 1 have BITS 3, 2. */
    private static final String LOOSE = "lift 2; row . 1;";
    private static final String WIDE = "lift 6; row 0 0 0 0 0 0 0 0; row 0 1 2 3 4 5 0 1;";
    private static final String FOUR = "row 0 0 0 .; row 0 . . .; row . 0 0 0; row . . . 0;";
    /** BIT 3 is had by three CHECKS, 0, 1, 2 by two each. */
    private static final String STAR = "row 0 . . 0; row . 0 . 0; row . . 0 0; row 0 0 0 .;";

    /** A ring of four CHECKS, one of which is the sum of the others: 16 BITS, 3 that are no CARRIERS. */
    private static final String THIRTEEN = "lift 2; row 0 0 . . . . . .; row 0 1 . . . . . .;";

    private PromisesTest() {
    }

    private static LiftedChecks heard(String text, int... values) {
        LiftedChecks x = Tape.coded(text);
        for (int bit = 0; bit < values.length; bit++) {
            x.hear(bit, values[bit]);
        }
        return x;
    }

    private static void faulty(String text, int fault, int place) {
        LiftedChecks x = new LiftedChecks();
        Tape.put(x, text);
        Due.is("text of " + text, x.text(), fault == 0 ? 0 : -1);
        Due.is("fault(0) of " + text, x.fault(0), fault);
        Due.is("fault(1) of " + text, x.fault(1), place);
        Due.is("about(2) behind text", x.about(2), 0);
        Due.is("about(0) behind text", x.about(0), fault == 0 ? 1 : 0);
    }

    public static void main(String[] args) {
        p01New();
        p02to03Tape();
        p04Text();
        p05FaultsOfNumbersAndPlaces();
        p05FaultsOfManyAndUnlike();
        p06Load();
        p07Encode();
        p08to09RaiseSlide();
        p10Hear();
        p11Send();
        p12Begin();
        p13Order();
        p14StepByLayers();
        p14StepAtOnce();
        p14StepEdges();
        p15Undo();
        p16Tell();
        p17to19IsShiftLayer();
        p20to23Checks();
        p24to26Bits();
        p27to29Book();
        p30to32Guess();
        p33to34Carriers();
        p35to37Rings();
        p38to39Ways();
        p40to43Knots();
        p44to45StoppersWords();
        p46to48Traps();
        p49to51Peeled();
        p52to53Cost();
        p54to56Words();
        p57to58Pipe();
        p59to60Clashes();
        p61to63Foretold();
        p64Fewer();
        p65Trials();
        p66Mean();
        p67to68Image();
        p69About();
        Due.end();
    }

    private static void p01New() {
        LiftedChecks x = new LiftedChecks();
        int[] first = {1, 1, 2, 1, 15, 0, 1, 0, 0, 613, 0};
        for (int what = 0; what < first.length; what++) {
            Due.is("new is " + what, x.is(what), first[what]);
        }
        Due.is("new shift", x.shift(0, 1), 0);
        Due.is("new sent", x.sent(), 0);
        Due.is("new guess", x.guess(), 0);
        x.encode(1);
        x.hear(0, 7);
        x.tell(5);
        Due.is("new back", x.back(), 2);
        Due.is("new back, sent", x.sent(), 0);
        Due.is("new back, heard", x.bit(0, 0), 0);
        Due.is("new back, X", x.is(9), 613);
        Due.is("new back, steps", x.about(1), 0);
        Due.is("NONE", LiftedChecks.NONE, -1);
    }

    private static void p02to03Tape() {
        LiftedChecks x = new LiftedChecks();
        for (int n = 1; n <= 15; n++) {
            Due.is("feed " + n, x.feed(0, 0, 0, 0, 0), 20 * n);
        }
        Due.is("feed beyond 300", x.feed(0, 0, 0, 0, 0), -1);
        Due.is("tape behind that", x.about(2), 300);
        Due.is("end(301)", x.end(301), -1);
        Due.is("end(-1)", x.end(-1), -1);
        Due.is("end(MAX)", x.end(MAX), -1);
        Due.is("tape behind that", x.about(2), 300);
        Due.is("end(300)", x.end(300), 300);
        Due.is("end(281)", x.end(281), 281);
        Due.is("feed to 301", x.feed(0, 0, 0, 0, 0), -1);
        Due.is("end(280)", x.end(280), 280);
        Due.is("feed to 300", x.feed(0, 0, 0, 0, 0), 300);
        Due.is("end(0)", x.end(0), 0);
        Due.is("end(1) of none", x.end(1), -1);
        // "row 0;" behind two bytes of blanks: the highest byte comes first
        x.feed(0x20200000, 0, 0, 0, 0);
        x.end(2);
        Due.is("feed behind 2", x.feed(0x726f7720, 0x303b2020, 0x0a0a2020, 0x20202020, 0x20202020), 22);
        Due.is("text", x.text(), 0);
    }

    private static void p04Text() {
        LiftedChecks x = new LiftedChecks();
        for (int n = 0; n < 4; n++) {
            Tape.put(x, "row 0;");
            Due.is("text " + n, x.text(), n);
            Due.is("tape behind text", x.about(2), 0);
        }
        Tape.put(x, "row 0");
        Due.is("fifth text", x.text(), -1);
        Due.is("the tape stays", x.about(2), 5);
        Due.is("no new fault", x.fault(0), 0);
        Due.is("texts", x.about(0), 4);
        faulty("lift2;row0.1.;most31;offset0;", 0, -1);
        faulty("\nrow\n0 ;\n", 0, -1);
        faulty("lift 06;row 005;", 0, -1);
        faulty("row........;row........;row........;row........;", 0, -1);
    }

    private static void p05FaultsOfNumbersAndPlaces() {
        LiftedChecks x = new LiftedChecks();
        Due.is("fault(0) ahead of any", x.fault(0), -1);
        Due.is("fault(1) ahead of any", x.fault(1), -1);
        Tape.put(x, "row 0; x");
        x.text();
        Due.is("fault(0)", x.fault(0), 1);
        Due.is("fault(1)", x.fault(1), 7);
        Due.is("fault(2)", x.fault(2), -1);
        Due.is("fault(-1)", x.fault(-1), -1);
        faulty("", 1, 0);
        faulty("   ", 1, 3);
        faulty("row", 1, 3);
        faulty("row 0", 1, 5);
        faulty("row ;", 1, 4);
        faulty("row 0;;", 1, 6);
        faulty("row 0 row 0;", 1, 6);
        faulty("lift", 1, 4);
        faulty("lift ;", 1, 5);
        faulty("lift 2 2;", 1, 7);
        faulty("lift 2 lift 2;", 1, 7);
        faulty("offset .;", 1, 7);
        faulty("most 3;", 1, 7);
        faulty("rows 0;", 1, 0);
        faulty("rowa 0;", 1, 0);
        faulty("rowz 0;", 1, 0);
        faulty("row`0;", 1, 3);
        faulty("row{0;", 1, 3);
        faulty("row/0;", 1, 3);
        faulty("row:0;", 1, 3);
        faulty("row 9;", 2, 4);
        faulty("Row 0;", 1, 0);
        faulty("ro w 0;", 1, 0);
        faulty("row\t0;", 1, 3);
        faulty("row 0\u00e9;", 1, 5);
        faulty("row 0\u0000;", 1, 5);
        faulty("row -1;", 1, 4);
        faulty("7", 1, 0);
        faulty(".", 1, 0);
        faulty("lift 0;row 0;", 2, 5);
        faulty("lift 7;row 0;", 2, 5);
        faulty("lift 6;row 5;", 0, -1);
        faulty("lift 6;row 6;", 2, 11);
        faulty("lift 4294967297;row 0;", 2, 5);
        faulty("lift 99999999999999999999;row 0;", 2, 5);
        faulty("offset 9;row 0;", 0, -1);
        faulty("offset 10;row 0;", 2, 7);
        faulty("most 0;row 0;", 2, 5);
        faulty("most 31;row 0;", 0, -1);
        faulty("most 32;row 0;", 2, 5);
        faulty("row 0 1;", 2, 6);
    }

    private static void p05FaultsOfManyAndUnlike() {
        faulty("row 0 0 0 0 0 0 0 0 .;", 3, 20);
        faulty("row 0 0 0 0 0 0 0 0 1;", 2, 20);
        faulty("row 0 0 0 0 0 0 0 0 x;", 1, 20);
        faulty("row 0 0 0 0 0 0 0 0", 1, 19);
        faulty("row 0;row 0 0 0 0 0 0 0 0 0;", 3, 26);
        faulty("row 0;row 0;row 0;row 0;row 0;", 3, 24);
        faulty("row 0;row 0;row 0;row 0;row", 3, 24);
        faulty("row 0;row 0;row 0;row 0;rows", 1, 24);
        faulty("row 0;lift 2;", 4, 6);
        faulty("offset 1;lift 2;row 0;", 4, 9);
        faulty("lift 2;lift 2;row 0;", 4, 7);
        faulty("offset 1;offset 1;row 0;", 4, 9);
        faulty("row 0;most 1;offset 2;most x", 4, 22);
        faulty("row 0 .;row 0;", 5, 13);
        faulty("row 0;row 0 .;", 5, 13);
        faulty("row 0;row ;", 1, 10);
        faulty("row 0 .;row 0 1;", 2, 14);
    }

    private static void p06Load() {
        LiftedChecks x = new LiftedChecks();
        Due.is("load of none", x.load(0), -1);
        Tape.put(x, PAIRS);
        x.text();
        x.tell(99);
        x.encode(1);
        x.hear(0, 4);
        x.begin(1);
        Due.is("load(1)", x.load(1), -1);
        Due.is("load(-1)", x.load(-1), -1);
        Due.is("load(MAX)", x.load(MAX), -1);
        Due.is("steps", x.about(1), 3);
        Due.is("load(0)", x.load(0), 6);
        Due.is("steps", x.about(1), 4);
        int[] due = {2, 2, 3, 0, 7, 0, 1, 0, 0, 99, 0};
        for (int what = 0; what < due.length; what++) {
            Due.is("loaded is " + what, x.is(what), due[what]);
        }
        Due.is("loaded sent", x.sent(), 0);
        Due.is("loaded heard", x.bit(0, 0), 0);
        x.order(1);
        x.load(0);
        Due.is("loaded order", x.layer(0), 0);
        Tape.put(x, "row 0 .;");
        x.load(x.text());
        Due.is("told none: lift", x.is(0), 1);
        Due.is("told none: offset", x.is(3), 1);
        Due.is("told none: most", x.is(4), 15);
    }

    private static void p07Encode() {
        LiftedChecks x = Tape.coded(PAIRS);
        long[] words = {0, 22, 41, 63};
        for (int n = 0; n < 4; n++) {
            Due.is("encode " + n, x.encode(n), Long.bitCount(words[n]));
            Due.is("sent by " + n, x.sent(), words[n]);
        }
        Due.is("encode(4)", x.encode(4), -1);
        Due.is("encode(-1)", x.encode(-1), -1);
        Due.is("encode(MAX)", x.encode(Long.MAX_VALUE), -1);
        Due.is("encode(MIN)", x.encode(Long.MIN_VALUE), -1);
        Due.is("sent stays", x.sent(), 63);
        Due.is("steps", x.about(1), 5);
        x = Tape.coded("lift 6;row . . . . . . . .;");
        Due.is("48 carriers", x.encode((1L << 48) - 1), 48);
        Due.is("49 carriers", x.encode(1L << 48), -1);
        x = Tape.coded("row 0;");
        Due.is("no carriers, 0", x.encode(0), 0);
        Due.is("no carriers, 1", x.encode(1), -1);
    }

    private static void p08to09RaiseSlide() {
        LiftedChecks x = Tape.coded("lift 3; row 2 . 1; row 0 1 2;");
        x.encode(1);
        x.hear(0, 3);
        x.order(1);
        x.begin(1);
        Due.is("raise(0, 2)", x.raise(0, 2), true);
        Due.is("shift 0 0", x.shift(0, 0), 1);
        Due.is("shift 1 0", x.shift(1, 0), 2);
        Due.is("shift 0 2 stays", x.shift(0, 2), 1);
        Due.is("sent", x.sent(), 0);
        Due.is("heard", x.bit(0, 0), 0);
        Due.is("order", x.layer(0), 0);
        Due.is("mode", x.is(5), 0);
        Due.is("has of the new code", x.has(0, 0), 1);
        Due.is("raise(1, 5)", x.raise(1, 5), true);
        Due.is("EMPTY stays", x.shift(0, 1), -1);
        Due.is("shift 1 1", x.shift(1, 1), 0);
        Due.is("slide(0, 4)", x.slide(0, 4), true);
        Due.is("shift 0 0", x.shift(0, 0), 2);
        Due.is("EMPTY stays", x.shift(0, 1), -1);
        Due.is("shift 0 2", x.shift(0, 2), 2);
        Due.is("shift 1 0 stays", x.shift(1, 0), 2);
        int steps = x.about(1);
        int[][] others = {{-1, 1}, {3, 1}, {0, 0}, {0, 6}, {0, -1}, {MIN, 1}, {0, MAX}};
        for (int[] o : others) {
            Due.is("raise for others", x.raise(o[0], o[1]), false);
        }
        others[1][0] = 2;
        for (int[] o : others) {
            Due.is("slide for others", x.slide(o[0], o[1]), false);
        }
        Due.is("steps stay", x.about(1), steps);
        x = new LiftedChecks();
        x.hear(0, -3);
        Due.is("raise of LIFT 1", x.raise(1, 5), true);
        Due.is("shift", x.shift(0, 1), 0);
        Due.is("heard", x.bit(0, 0), 0);
    }

    private static void p10Hear() {
        LiftedChecks x = new LiftedChecks();
        Due.is("hear 31", x.hear(0, 31), true);
        Due.is("hear -31", x.hear(1, -31), true);
        Due.is("heard", x.bit(0, 0), 31);
        Due.is("heard", x.bit(1, 0), -31);
        Due.is("belief waits", x.bit(1, 1), 0);
        Due.is("state waits", x.is(6), 1);
        Due.is("hear 32", x.hear(0, 32), false);
        Due.is("hear -32", x.hear(0, -32), false);
        Due.is("hear of 2", x.hear(2, 0), false);
        Due.is("hear of -1", x.hear(-1, 0), false);
        Due.is("hear MIN", x.hear(0, MIN), false);
        Due.is("heard stays", x.bit(0, 0), 31);
        Due.is("steps", x.about(1), 2);
    }

    private static void p11Send() {
        LiftedChecks x = Tape.coded(PAIRS);
        x.encode(1);
        int drawn = 613;
        int changed = 0;
        int[] due = new int[6];
        for (int bit = 0; bit < 6; bit++) {
            drawn = (drawn * 839 + 577) % 30071;
            boolean spoilt = drawn % 100 < 40;
            changed += spoilt ? 1 : 0;
            due[bit] = (22 >> bit & 1) == 1 != spoilt ? -9 : 9;
        }
        Due.is("send(9, 40)", x.send(9, 40), changed);
        for (int bit = 0; bit < 6; bit++) {
            Due.is("heard of " + bit, x.bit(bit, 0), due[bit]);
            Due.is("belief waits", x.bit(bit, 1), 0);
        }
        Due.is("X", x.is(9), drawn);
        Due.is("send spoils none", x.send(31, 0), 0);
        Due.is("heard of a BIT of SENT", x.bit(1, 0), -31);
        Due.is("heard of another", x.bit(0, 0), 31);
        Due.is("send spoils all", x.send(1, 100), 6);
        Due.is("heard of a BIT of SENT", x.bit(1, 0), 1);
        int steps = x.about(1);
        int[][] others = {{0, 0}, {32, 0}, {1, -1}, {1, 101}, {MIN, 0}, {1, MAX}};
        for (int[] o : others) {
            Due.is("send for others", x.send(o[0], o[1]), -1);
        }
        Due.is("steps stay", x.about(1), steps);
    }

    private static void p12Begin() {
        LiftedChecks x = heard(PAIRS, 5, -3, 2, 5, -4, 5);
        Due.is("begin(1)", x.begin(1), 0);
        Due.is("mode", x.is(5), 1);
        x.step(1);
        Due.is("begin(0)", x.begin(0), 0);
        Due.is("mode", x.is(5), 0);
        Due.is("belief", x.bit(1, 1), -3);
        Due.is("message", x.message(1, 1), 0);
        Due.is("sweeps", x.is(7), 0);
        Due.is("book", x.book(-1, 0), 0);
        Due.is("turned", x.turned(2), 0);
        x.step(1);
        Due.is("at", x.is(8), 1);
        x.begin(0);
        Due.is("at of begun", x.is(8), 0);
        x.hear(2, -2);
        Due.is("begin on a word", x.begin(0), 1);
        int steps = x.about(1);
        Due.is("begin(2)", x.begin(2), -1);
        Due.is("begin(-1)", x.begin(-1), -1);
        Due.is("steps stay", x.about(1), steps);
    }

    private static void p13Order() {
        LiftedChecks x = Tape.coded("row 0; row 0; row 0;");
        int[][] orders = {{0, 1, 2}, {0, 2, 1}, {1, 0, 2}, {1, 2, 0}, {2, 0, 1}, {2, 1, 0}};
        for (int number = 0; number < 6; number++) {
            Due.is("order " + number, x.order(number), true);
            for (int place = 0; place < 3; place++) {
                Due.is("layer", x.layer(place), orders[number][place]);
            }
        }
        Due.is("order(6)", x.order(6), false);
        Due.is("order(-1)", x.order(-1), false);
        Due.is("steps", x.about(1), 7);
        x = heard(PAIRS, 5, -3, 2, 5, -4, 5);
        x.begin(1);
        x.step(1);
        x.order(1);
        Due.is("mode as it is", x.is(5), 1);
        Due.is("begun", x.bit(1, 1), -3);
        Due.is("begun sweeps", x.is(7), 0);
        x.begin(0);
        x.step(1);
        Due.is("the first LAYER of THE ORDER", x.book(0, 0), 1);
        x = Tape.coded("row 0; row 0; row 0; row 0;");
        x.order(23);
        Due.is("order 23", x.layer(0) * 1000 + x.layer(1) * 100 + x.layer(2) * 10 + x.layer(3), 3210);
        x.order(9);
        Due.is("order 9", x.layer(0) * 1000 + x.layer(1) * 100 + x.layer(2) * 10 + x.layer(3), 1230);
        Due.is("order(24)", x.order(24), false);
    }

    private static void p14StepByLayers() {
        LiftedChecks x = heard(PAIRS, 5, -3, 2, 5, -4, 5);
        x.order(1);
        Due.is("step(1)", x.step(1), 1);
        int[] first = {10, -7, 2, 5, -7, 10};
        for (int bit = 0; bit < 6; bit++) {
            Due.is("belief", x.bit(bit, 1), first[bit]);
        }
        Due.is("at", x.is(8), 1);
        Due.is("sweeps", x.is(7), 0);
        Due.is("state", x.is(6), 0);
        Due.is("step(80)", x.step(80), 1);
        int[] second = {15, -5, -5, 12, -7, 10};
        for (int bit = 0; bit < 6; bit++) {
            Due.is("belief", x.bit(bit, 1), second[bit]);
        }
        Due.is("message above 0", x.message(0, 3), 7);
        Due.is("message below 0", x.message(1, 2), -7);
        Due.is("at is 0 again", x.is(8), 0);
        Due.is("sweeps", x.is(7), 1);
        Due.is("state", x.is(6), 1);
    }

    private static void p14StepAtOnce() {
        LiftedChecks x = heard(TRIANGLE, -9, 4, 6);
        x.begin(1);
        x.hear(2, 20);
        Due.is("step(1)", x.step(1), 1);
        // RESTS are as BEGUN (-9 4 6), HEARD is as it is then (-9 4 20)
        Due.is("messages to 0", x.message(0, 0) * 100 + x.message(2, 0), 305);
        Due.is("messages to 1", x.message(0, 1) * 100 + x.message(1, 1), -795);
        Due.is("messages to 2", x.message(1, 2) * 100 + x.message(2, 2), 292);
        Due.is("belief 0", x.bit(0, 1), -9 + 3 + 5);
        Due.is("belief 1", x.bit(1, 1), 4 - 8 + 5);
        Due.is("belief 2", x.bit(2, 1), 20 + 3 - 8);
        Due.is("at stays 0", x.is(8), 0);
        Due.is("sweeps", x.is(7), 1);
        Due.is("book's LAYER", x.book(0, 0), -1);
    }

    private static void p14StepEdges() {
        LiftedChecks x = heard("row 0 .;", -7, 0);
        x.begin(0);
        Due.is("step without other BITS", x.step(80), 20);
        Due.is("its message", x.message(0, 0), 0);
        Due.is("its belief", x.bit(0, 1), -7);
        Due.is("state is 2", x.is(6), 2);
        Due.is("sweeps are 20", x.is(7), 20);
        Due.is("no more steps", x.step(1), -1);
        x.begin(0);
        Due.is("step(0)", x.step(0), -1);
        Due.is("step(81)", x.step(81), -1);
        Due.is("step(-1)", x.step(-1), -1);
        Due.is("steps", x.about(1), 6);
        Due.is("step(20)", x.step(20), 20);
        x = heard("most 31; offset 0; row 0 0; row 0 .; row 0 0; row 0 0;", 31, 31);
        x.hear(0, -31);
        x.begin(0);
        Due.is("step in STATE 0", x.step(1), 1);
        x = heard("most 31; offset 0; row 0 0 .; row 0 0 .; row 0 0 .; row . . 0;", 31, 31, -1);
        x.begin(1);
        x.step(3);
        Due.is("belief is held", x.bit(0, 1), 99);
        x = heard("most 31; offset 0; row 0 0 .; row 0 0 .; row 0 0 .; row . . 0;", -31, -31, -1);
        x.begin(0);
        x.step(80);
        Due.is("belief is held below 0", x.bit(0, 1), -99);
        x = heard("most 2; offset 9; row 0 0; row 0 .;", -9, 12);
        x.begin(0);
        x.step(1);
        Due.is("no message below the offset", x.message(0, 1), 0);
        Due.is("message at most MOST", x.message(0, 0), 2);
    }

    private static void p15Undo() {
        LiftedChecks x = new LiftedChecks();
        Due.is("undo of none", x.undo(), -1);
        for (int n = 1; n <= 25; n++) {
            x.hear(0, n);
        }
        Due.is("twenty are kept", x.about(1), 20);
        x.image();
        x.hear(1, 1);
        x.undo();
        x.back();
        for (int n = 19; n >= 0; n--) {
            Due.is("undo", x.undo(), n);
            Due.is("heard", x.bit(0, 0), n + 5);
        }
        Due.is("undo of none", x.undo(), -1);
        Due.is("heard stays", x.bit(0, 0), 5);
        x = heard(PAIRS, 5, -3, 2, 5, -4, 5);
        x.order(1);
        x.step(1);
        x.step(1);
        x.undo();
        Due.is("belief as ahead", x.bit(3, 1), 12 - 7);
        Due.is("message as ahead", x.message(0, 3), 0);
        Due.is("message of the step ahead", x.message(3, 0), 5);
        Due.is("book as ahead", x.book(-1, 0), 1);
        Due.is("turned as ahead", x.turned(2), 0);
        Due.is("at as ahead", x.is(8), 1);
        Due.is("state as ahead", x.is(6), 0);
        Due.is("steps go on as before", x.step(80), 1);
        Due.is("turned", x.turned(2), 1);
        x.order(0);
        Due.is("an order is one step", x.undo(), 10);
        Due.is("order as ahead", x.layer(0), 1);
        x.send(5, 50);
        x.tell(77);
        x.undo();
        Due.is("X as ahead", x.is(9), 613);
        x.encode(2);
        x.raise(0, 1);
        Due.is("raised", x.shift(0, 0), 1);
        x.undo();
        Due.is("shift as ahead", x.shift(0, 0), 0);
        Due.is("sent as ahead", x.sent(), 41);
        x.undo();
        Due.is("sent as ahead", x.sent(), 0);
        Tape.put(x, "row 0;");
        x.load(x.text());
        x.undo();
        Due.is("code as ahead", x.is(0), 2);
        Due.is("TEXTS stay", x.about(0), 2);
        x = heard("row 0 . .; row . 0 0;", -9, 4, -9);
        x.order(1);
        x.step(39);
        x.begin(1);
        x.step(20);
        x.undo();
        x.undo();
        for (int i = 0; i < 16; i++) {
            Due.is("the whole book as ahead", x.book(i, 0), i % 2);
        }
        Due.is("turned as ahead", x.turned(1), 1);
    }

    private static void p16Tell() {
        LiftedChecks x = new LiftedChecks();
        Due.is("tell(30070)", x.tell(30070), true);
        Due.is("X", x.is(9), 30070);
        Due.is("tell(0)", x.tell(0), true);
        Due.is("X", x.is(9), 0);
        Due.is("tell(30071)", x.tell(30071), false);
        Due.is("tell(-1)", x.tell(-1), false);
        Due.is("tell(MIN)", x.tell(MIN), false);
        Due.is("X stays", x.is(9), 0);
        Due.is("no step", x.about(1), 0);
    }

    private static void p17to19IsShiftLayer() {
        LiftedChecks x = heard(PAIRS, 5, -3, 2, 5, -4, 5);
        x.order(1);
        x.step(1);
        int[] due = {2, 2, 3, 0, 7, 0, 0, 0, 1, 613, 1};
        for (int what = 0; what < due.length; what++) {
            Due.is("is " + what, x.is(what), due[what]);
        }
        Due.is("is(11)", x.is(11), -1);
        Due.is("is(-1)", x.is(-1), -1);
        Due.is("is(MAX)", x.is(MAX), -1);
        Due.is("shift", x.shift(0, 1), 1);
        Due.is("shift EMPTY", x.shift(0, 2), -1);
        Due.is("shift(2, 0)", x.shift(2, 0), -2);
        Due.is("shift(0, 3)", x.shift(0, 3), -2);
        Due.is("shift(-1, 0)", x.shift(-1, 0), -2);
        Due.is("shift(0, MIN)", x.shift(0, MIN), -2);
        Due.is("layer(1)", x.layer(1), 0);
        Due.is("layer(2)", x.layer(2), -1);
        Due.is("layer(-1)", x.layer(-1), -1);
    }

    private static void p20to23Checks() {
        LiftedChecks x = Tape.coded(PAIRS);
        int[][] has = {{0, 3}, {1, 2}, {1, 4}, {0, 5}};
        for (int check = 0; check < 4; check++) {
            Due.is("how many", x.has(check, -1), 2);
            Due.is("the first", x.has(check, 0), has[check][0]);
            Due.is("the second", x.has(check, 1), has[check][1]);
        }
        Due.is("has(0, 2)", x.has(0, 2), -1);
        Due.is("has(0, -2)", x.has(0, -2), -1);
        Due.is("has(4, 0)", x.has(4, 0), -1);
        Due.is("has(-1, -1)", x.has(-1, -1), -1);
        Due.is("both", x.both(0, 3), 1);
        Due.is("both of one row", x.both(0, 1), 0);
        Due.is("both of one", x.both(2, 2), 2);
        Due.is("both(0, 4)", x.both(0, 4), -1);
        Due.is("both(-1, 0)", x.both(-1, 0), -1);
        Due.is("loose none", x.loose(), 0);
        Due.is("degree", x.degree(0), 2);
        Due.is("degree", x.degree(5), 1);
        Due.is("degree(6)", x.degree(6), -1);
        Due.is("degree(-1)", x.degree(-1), -1);
        x = Tape.coded(LOOSE);
        Due.is("loose", x.loose(), 3);
        Due.is("degree of loose", x.degree(1), 0);
        x = Tape.coded("lift 6;row . . . . . . . .;");
        Due.is("all loose", x.loose(), (1L << 48) - 1);
        Due.is("has none", x.has(5, -1), 0);
        x = Tape.coded(WIDE);
        Due.is("has of a wide row", x.has(11, 7), 42);
        Due.is("has of a wide row", x.has(6, 6), 36);
    }

    private static void p24to26Bits() {
        LiftedChecks x = heard(PAIRS, 5, -3, 2, 5, -4, 5);
        x.encode(1);
        x.begin(0);
        x.step(1);
        Due.is("not odd in a word", x.odd(2), false);
        Due.is("heard", x.bit(3, 0), 5);
        Due.is("belief", x.bit(3, 1), 10);
        Due.is("in the guess", x.bit(1, 2), 1);
        Due.is("not in the guess", x.bit(0, 2), 0);
        Due.is("in sent", x.bit(4, 3), 1);
        Due.is("not in sent", x.bit(0, 3), 0);
        Due.is("carrier", x.bit(5, 4), 1);
        Due.is("no carrier", x.bit(3, 4), 0);
        Due.is("bit(0, 5)", x.bit(0, 5), -100);
        Due.is("bit(0, -1)", x.bit(0, -1), -100);
        Due.is("bit(6, 0)", x.bit(6, 0), -100);
        Due.is("bit(-1, 0)", x.bit(-1, 0), -100);
        Due.is("message", x.message(1, 2), -3);
        Due.is("message", x.message(1, 1), 2);
        Due.is("message to a BIT it hasn't", x.message(1, 0), -100);
        Due.is("message(4, 0)", x.message(4, 0), -100);
        Due.is("message(0, 6)", x.message(0, 6), -100);
        Due.is("message(-1, -1)", x.message(-1, -1), -100);
        x.begin(0);
        Due.is("odd", x.odd(1), true);
        Due.is("not odd", x.odd(2), false);
        Due.is("odd(4)", x.odd(4), false);
        Due.is("odd(-1)", x.odd(-1), false);
    }

    private static void p27to29Book() {
        LiftedChecks x = new LiftedChecks();
        Due.is("restless: none", x.restless(), -1);
        Due.is("no line", x.book(0, 0), -2);
        // BELIEFS that swing: the lone BIT 2 keeps a CHECK odd
        x = heard("offset 0; row 0 0 .; row 0 . .; row . . 0;", -5, 5, -9);
        x.begin(1);
        for (int n = 0; n < 20; n++) {
            Due.is("step", x.step(1), 1);
        }
        Due.is("lines", x.book(-1, 0), 16);
        Due.is("lines, whatever is asked", x.book(-1, 7), 16);
        Due.is("a line", x.book(15, 2), x.is(10));
        Due.is("book(16, 0)", x.book(16, 0), -2);
        Due.is("book(-2, 0)", x.book(-2, 0), -2);
        Due.is("book(0, 3)", x.book(0, 3), -2);
        Due.is("book(0, -1)", x.book(0, -1), -2);
        Due.is("turned(3)", x.turned(3), -1);
        Due.is("turned(-1)", x.turned(-1), -1);
        x = heard("row 0 0 . .; row . . 0 0; row . . 0 .;", -9, 4, 9, -3);
        x.begin(0);
        x.step(3);
        int[][] lines = {{0, 1, 1}, {1, 1, 0}};
        Due.is("lines", x.book(-1, 0), 2);
        for (int i = 0; i < 2; i++) {
            for (int what = 0; what < 3; what++) {
                Due.is("line " + i + " " + what, x.book(i, what), lines[i][what]);
            }
        }
        Due.is("turned", x.turned(1), 1);
        Due.is("turned", x.turned(3), 1);
        Due.is("not turned", x.turned(0), 0);
        Due.is("restless, the lowest of like ones", x.restless(), 1);
        x = heard("row 0 0;", 3, -9);
        x.begin(0);
        x.step(1);
        Due.is("restless", x.restless(), 0);
        x = heard("row 0 . .; row . 0 0;", -9, 4, -9);
        x.begin(0);
        x.step(80);
        Due.is("the eldest is gone", x.book(0, 0), 0);
        Due.is("the eldest is gone", x.book(0, 1), 0);
        Due.is("the latest", x.book(15, 0), 1);
    }

    private static void p30to32Guess() {
        LiftedChecks x = heard(PAIRS, 0, -1, 1, -31, 31, 0);
        Due.is("guess ahead of begin", x.guess(), 0);
        x.begin(0);
        Due.is("guess", x.guess(), 10);
        x.encode(3);
        Due.is("sent", x.sent(), 63);
        Due.is("wrong", x.wrong(), 4);
        Due.is("guess behind encode", x.guess(), 10);
        x.encode(0);
        Due.is("wrong", x.wrong(), 2);
    }

    private static void p33to34Carriers() {
        LiftedChecks x = Tape.coded(PAIRS);
        Due.is("rank", x.rank(), 4);
        Due.is("carrier(0)", x.carrier(0), 4);
        Due.is("carrier(1)", x.carrier(1), 5);
        Due.is("carrier(2)", x.carrier(2), -1);
        Due.is("carrier(-1)", x.carrier(-1), -1);
        Due.is("carrier(MIN)", x.carrier(MIN), -1);
        x = Tape.coded(DOUBLE);
        Due.is("rank of like CHECKS", x.rank(), 1);
        x = Tape.coded(TRIANGLE);
        Due.is("rank of a ring", x.rank(), 2);
        Due.is("its carrier", x.carrier(0), 2);
        x = Tape.coded(LOOSE);
        Due.is("rank with loose BITS", x.rank(), 2);
        Due.is("a loose carrier", x.carrier(1), 1);
        x = Tape.coded("row . 0 0; row . 0 .;");
        Due.is("carriers ahead", x.carrier(0), 0);
        Due.is("no others", x.carrier(1), -1);
    }

    private static void p35to37Rings() {
        LiftedChecks x = Tape.coded(TRIANGLE);
        Due.is("girth", x.girth(), 6);
        Due.is("fours", x.fours(), 0);
        Due.is("sixes", x.sixes(), 1);
        x = Tape.coded(DOUBLE);
        Due.is("girth", x.girth(), 4);
        Due.is("fours", x.fours(), 3);
        Due.is("sixes", x.sixes(), 0);
        x = Tape.coded("row 0 0 0; row 0 0 0; row 0 0 0;");
        Due.is("fours of 3 by 3", x.fours(), 9);
        Due.is("sixes of 3 by 3", x.sixes(), 6);
        x = Tape.coded("lift 3; row 0 0; row 0 1;");
        Due.is("a ring of 12", x.girth(), 12);
        Due.is("no six", x.sixes(), 0);
        x = Tape.coded(PAIRS);
        Due.is("no ring", x.girth(), -1);
        x = Tape.coded("lift 6; row 0 0 0 0 0 0 0 0; row 0 0 0 0 0 0 0 0; row 0 0 0 0 0 0 0 0; row 0 0 0 0 0 0 0 0;");
        Due.is("fours of 4 by 8", x.fours(), 6 * 6 * 28);
        Due.is("sixes of 4 by 8", x.sixes(), 6 * 4 * 8 * 7 * 6);
    }

    private static void p38to39Ways() {
        LiftedChecks x = Tape.coded(PAIRS);
        Due.is("path", x.path(3, 0), 1);
        Due.is("path", x.path(3, 5), 2);
        Due.is("path of one", x.path(4, 4), 0);
        Due.is("no path", x.path(0, 1), -1);
        Due.is("path(0, 6)", x.path(0, 6), -1);
        Due.is("path(-1, -1)", x.path(-1, -1), -1);
        Due.is("pieces", x.pieces(), 2);
        x = Tape.coded("lift 3; row 0 0; row 0 1;");
        Due.is("path in a ring", x.path(3, 0), 1);
        Due.is("the far side of a ring", x.path(0, 5), 3);
        Due.is("one piece", x.pieces(), 1);
        x = Tape.coded(LOOSE);
        Due.is("loose to itself", x.path(0, 0), 0);
        Due.is("loose to another", x.path(0, 1), -1);
        Due.is("pieces", x.pieces(), 4);
        Due.is("all loose", Tape.coded("lift 6;row . . . . . . . .;").pieces(), 48);
    }

    private static void p40to43Knots() {
        LiftedChecks x = Tape.coded(PAIRS);
        Due.is("odds", x.odds(1), 2);
        Due.is("odds of a word", x.odds(41), 0);
        Due.is("odds of none", x.odds(0), 0);
        Due.is("odds(64)", x.odds(64), -1);
        Due.is("odds(-1)", x.odds(-1), -1);
        Due.is("odds(MIN)", x.odds(Long.MIN_VALUE), -1);
        Due.is("knot", x.knot(41), true);
        Due.is("no knot", x.knot(9), false);
        Due.is("knot of no BITS", x.knot(0), false);
        Due.is("knot of six", x.knot(63), false);
        Due.is("knot(64)", x.knot(64), false);
        Due.is("knot(-1)", x.knot(-1), false);
        int[] many = {0, 0, 2, 0};
        for (int n = 1; n <= 4; n++) {
            Due.is("knots " + n, x.knots(n), many[n - 1]);
        }
        Due.is("knots(0)", x.knots(0), -1);
        Due.is("knots(5)", x.knots(5), -1);
        Due.is("least", x.least(3, 0), 41);
        Due.is("least", x.least(3, 1), 22);
        Due.is("least beyond", x.least(3, 2), 0);
        Due.is("least(3, -1)", x.least(3, -1), 0);
        Due.is("least(0, 0)", x.least(0, 0), 0);
        Due.is("least(5, 0)", x.least(5, 0), 0);
        x = Tape.coded(LOOSE);
        Due.is("a loose BIT is no knot", x.knot(1), false);
        x = Tape.coded("row 0 0 0 0;");
        Due.is("four of a check", x.knot(15), true);
        Due.is("pairs are least", x.knots(2), 6);
        Due.is("four isn't", x.knots(4), 0);
        long[] pairs = {3, 5, 9, 6, 10, 12};
        for (int i = 0; i < 6; i++) {
            Due.is("their order", x.least(2, i), pairs[i]);
        }
        x = Tape.coded(STAR);
        Due.is("more that are not odd", x.knot(3), false);
        Due.is("a CHECK of BIT 3 alone is odd", x.odds(11), 1);
        Due.is("but two are not", x.knot(11), true);
        Due.is("nor do all of a KNOT's BITS make one", x.least(4, 0), 0);
        // BITS had by three CHECKS each bear one that is odd
        x = Tape.coded("row 0 0 .; row 0 0 .; row 0 . 0; row . 0 0;");
        Due.is("odd CHECKS", x.odds(3), 2);
        Due.is("knot with them", x.knot(3), true);
        x.load(0);
        Due.is("counted again", x.knots(2), 1);
        x.raise(0, 1);
        Due.is("counted of the new code", x.knots(2), 1);
    }

    private static void p44to45StoppersWords() {
        LiftedChecks x = Tape.coded(LOOSE);
        Due.is("loose stoppers", x.stoppers(1), 2);
        Due.is("loose words", x.words(1), 2);
        Due.is("pairs that stop", x.stoppers(2), 1);
        Due.is("pairs that are words", x.words(2), 1);
        Due.is("three", x.stoppers(3), 0);
        x = Tape.coded(DOUBLE);
        Due.is("pairs that stop", x.stoppers(2), 3);
        Due.is("pairs that are words", x.words(2), 3);
        Due.is("three that stop", x.stoppers(3), 1);
        Due.is("three are no word", x.words(3), 0);
        Due.is("four of three", x.stoppers(4), 0);
        Due.is("four of three", x.words(4), 0);
        x = Tape.coded("lift 6;row . . . . . . . .;");
        Due.is("all sets of four stop", x.stoppers(4), 194580);
        Due.is("all sets of four are words", x.words(4), 194580);
        Due.is("all sets of three", x.words(3), 17296);
        int[] others = {0, 5, -1, MIN, MAX};
        for (int many : others) {
            Due.is("stoppers for others", x.stoppers(many), -1);
            Due.is("words for others", x.words(many), -1);
        }
    }

    private static void p46to48Traps() {
        LiftedChecks x = Tape.coded(PAIRS);
        Due.is("a word traps", x.trapped(3, 1, 4), 1);
        Due.is("trapped beyond", x.trapped(3, 2, 4), -1);
        Due.is("trapped(3, -1, 4)", x.trapped(3, -1, 4), -1);
        Due.is("trapped(0, 0, 4)", x.trapped(0, 0, 4), -1);
        Due.is("trapped(5, 0, 4)", x.trapped(5, 0, 4), -1);
        Due.is("trapped by 0", x.trapped(3, 0, 0), -1);
        Due.is("trapped by 32", x.trapped(3, 0, 32), -1);
        Due.is("traps", x.traps(3, 31), 2);
        Due.is("traps of none", x.traps(4, 1), 0);
        Due.is("traps(0, 1)", x.traps(0, 1), -1);
        Due.is("traps(5, 1)", x.traps(5, 1), -1);
        Due.is("traps(3, 0)", x.traps(3, 0), -1);
        Due.is("traps(3, 32)", x.traps(3, 32), -1);
        Due.is("weakest", x.weakest(1), 41);
        Due.is("weakest(0)", x.weakest(0), 0);
        Due.is("weakest(32)", x.weakest(32), 0);
        Due.is("nothing is heard by it", x.bit(0, 0), 0);
        x = Tape.coded("row 0;");
        Due.is("weakest: none", x.weakest(5), 0);
        x = Tape.coded("lift 4; row 0 0 0 0;");
        Due.is("pairs", x.knots(2), 24);
        Due.is("traps of the first 20", x.traps(2, 3), 20);
        // BITS 0 and 1 have an odd CHECK each, which BIT 2 mends
        x = Tape.coded("offset 0; row 0 0 . .; row 0 0 . .; row 0 . 0 0; row . 0 0 0;");
        Due.is("a knot", x.least(2, 0), 3);
        Due.is("a knot that traps with 1 or 2", x.trapped(2, 0, 5) > 0, x.traps(2, 5) > 0);
        trapsOfAllKinds();
        x = Tape.coded("lift 2;row 1 . 1;row 0 1 1;row 1 0 1;");
        int[] ends = {0, 2, 0, 2};
        for (int i = 0; i < 4; i++) {
            Due.is("trapped " + i, x.trapped(2, i, 7), ends[i]);
        }
        Due.is("those let go don't count", x.traps(2, 7), 2);
        Due.is("the first is let go", x.least(2, 0), 9);
        Due.is("so the next one is weakest", x.weakest(7), 17);
        x = Tape.coded("lift 5;offset 0;row 4 0 4 1 4 0 .;row 2 3 2 0 . 1 3;row 3 . 4 . . 3 .;row . 3 0 4 2 2 3;");
        Due.is("twenty are let go", x.traps(2, 10), 0);
        Due.is("the next one isn't", x.trapped(2, 20, 10) > 0, true);
        Due.is("but it isn't looked at", x.weakest(10), 2147614721L);
    }

    /** Found by PlainModel: LEAST KNOTS that end in each of the three ways. */
    private static void trapsOfAllKinds() {
        LiftedChecks x = Tape.coded("lift 4;row 2 3 0 1 0 1 0;row . 1 1 0 0 3 2;row . . 1 1 3 1 .;row 2 3 2 3 2 1 1;");
        int[] kinds = new int[3];
        for (int i = 0; i < 186; i++) {
            int kind = x.trapped(4, i, 5);
            if (kind >= 0) {
                kinds[kind]++;
            }
        }
        Due.is("let go", kinds[0], 8);
        Due.is("another word", kinds[1], 8);
        Due.is("till the sweeps are over", kinds[2], 170);
        x.order(11);
        int changed = 0;
        for (int i = 0; i < 186; i++) {
            changed += x.trapped(4, i, 5) == 2 ? 1 : 0;
        }
        Due.is("by THE ORDER as it is", changed, 162);
    }

    private static void p49to51Peeled() {
        LiftedChecks x = Tape.coded(PAIRS);
        Due.is("peeled", x.peeled(6), 0);
        Due.is("known", x.known(6), 2);
        Due.is("a word is left", x.peeled(22), 22);
        Due.is("known of it", x.known(22), 0);
        Due.is("a word and more", x.peeled(22 | 9), 22);
        Due.is("known of them", x.known(22 | 9), 2);
        Due.is("peeled of none", x.peeled(0), 0);
        Due.is("known of none", x.known(0), 0);
        Due.is("peeled(64)", x.peeled(64), -1);
        Due.is("known(64)", x.known(64), -1);
        Due.is("peeled(-1)", x.peeled(-1), -1);
        Due.is("known(-1)", x.known(-1), -1);
        int[] erasable = {6, 15, 18, 9};
        for (int many = 1; many <= 4; many++) {
            Due.is("erasable " + many, x.erasable(many), erasable[many - 1]);
        }
        Due.is("erasable(0)", x.erasable(0), -1);
        Due.is("erasable(5)", x.erasable(5), -1);
        x = Tape.coded(LOOSE);
        Due.is("loose BITS are left", x.peeled(15), 3);
        Due.is("erasable", x.erasable(1), 2);
        Due.is("erasable", x.erasable(2), 1);
        Due.is("erasable", x.erasable(3), 0);
    }

    private static void p52to53Cost() {
        LiftedChecks x = heard(PAIRS, 5, -3, 2, 0, -4, -31);
        Due.is("cost of none", x.cost(0), 38);
        Due.is("cost of all", x.cost(63), 7);
        Due.is("cost", x.cost(22), 33);
        Due.is("cost", x.cost(32), 7);
        Due.is("cost(64)", x.cost(64), -1);
        Due.is("cost(-1)", x.cost(-1), -1);
        Due.is("likeliest", x.likeliest(), 63);
        x = Tape.coded(PAIRS);
        Due.is("likeliest of like ones", x.likeliest(), 0);
        x.hear(1, -1);
        x.hear(0, -1);
        x.hear(4, 1);
        x.hear(5, 1);
        Due.is("likeliest of like ones", x.likeliest(), 0);
        x.hear(2, -1);
        x.hear(3, -1);
        x.hear(4, -1);
        x.hear(5, -1);
        x.hear(0, 3);
        Due.is("likeliest of two", x.likeliest(), 22);
        Due.is("12 carriers", Tape.coded("lift 2; row 0 0 0 0 0 0 0; row . . . . . . .;").likeliest(), 0);
        Due.is("13 carriers", Tape.coded(THIRTEEN).likeliest(), -1);
    }

    private static void p54to56Words() {
        LiftedChecks x = Tape.coded(PAIRS);
        Due.is("lightest", x.lightest(), 3);
        int[] spectrum = {1, 0, 0, 2, 0, 0, 1, 0};
        for (int n = 0; n < spectrum.length; n++) {
            Due.is("spectrum " + n, x.spectrum(n), spectrum[n]);
        }
        Due.is("spectrum(-1)", x.spectrum(-1), -1);
        Due.is("spectrum(MAX)", x.spectrum(MAX), 0);
        x.hear(1, -5);
        x.hear(2, -5);
        Due.is("nearest to no BITS", x.nearest(), 0);
        x.begin(0);
        Due.is("nearest", x.nearest(), 22);
        x.hear(2, 5);
        x.hear(0, -5);
        x.begin(0);
        Due.is("nearest of like ones", x.nearest(), 0);
        x = Tape.coded("row 0;");
        Due.is("lightest: none", x.lightest(), -1);
        Due.is("spectrum of the one", x.spectrum(0), 1);
        x = Tape.coded("lift 2; row . . . . . .;");
        Due.is("12 carriers", x.spectrum(6), 924);
        Due.is("12 carriers", x.lightest(), 1);
        Due.is("12 carriers", x.nearest(), 0);
        x = Tape.coded("row . . . . . . . .; ");
        Due.is("8 carriers", x.spectrum(4), 70);
        x = Tape.coded("lift 3; row . . . . 0;");
        Due.is("12 carriers of 15 BITS", x.spectrum(12), 1);
        x = Tape.coded(THIRTEEN);
        Due.is("13 carriers", x.carrier(12), 15);
        Due.is("no more", x.carrier(13), -1);
        Due.is("13 carriers", x.spectrum(0), -1);
        Due.is("13 carriers", x.lightest(), -1);
        Due.is("13 carriers", x.nearest(), -1);
    }

    private static void p57to58Pipe() {
        LiftedChecks x = Tape.coded(PAIRS);
        // latency 4: columns 0 1 | 0 2, each SWEEP 0 1 - - 0 2 - -
        Due.is("slots", x.pipe(0, 4, 0), 8);
        Due.is("stalls", x.pipe(0, 4, 1), 4);
        Due.is("slots by 1", x.pipe(1, 1, 0), 4);
        Due.is("stalls by 1", x.pipe(1, 1, 1), 0);
        Due.is("pipe(2, 1, 0)", x.pipe(2, 1, 0), -1);
        Due.is("pipe(-1, 1, 0)", x.pipe(-1, 1, 0), -1);
        Due.is("pipe(0, 0, 0)", x.pipe(0, 0, 0), -1);
        Due.is("pipe(0, 10, 0)", x.pipe(0, 10, 0), -1);
        Due.is("pipe(0, 1, 2)", x.pipe(0, 1, 2), -1);
        Due.is("pipe(0, 1, -1)", x.pipe(0, 1, -1), -1);
        Due.is("quietest(0)", x.quietest(0), -1);
        Due.is("quietest(10)", x.quietest(10), -1);
        Due.is("quietest of like ones", x.quietest(9), 0);
        x = new LiftedChecks();
        Due.is("one row by 9", x.pipe(0, 9, 0), 9);
        Due.is("its stalls", x.pipe(0, 9, 1), 7);
        x = Tape.coded("row . .; row 0 .;");
        Due.is("an EMPTY row has no slots", x.pipe(0, 3, 0), 3);
        Due.is("all EMPTY", Tape.coded("row .;").pipe(0, 9, 0), 0);
        x = Tape.coded("row 0 0 . .; row 0 0 . .; row . . 0 0; row . . 0 0;");
        Due.is("like rows side by side", x.pipe(0, 4, 0), 12);
        Due.is("like rows apart", x.pipe(2, 4, 0), 8);
        Due.is("quietest", x.quietest(4), 2);
        Due.is("all are like by 1", x.quietest(1), 0);
        // SLOTS of its SWEEPS: 22, 20, 21, 20, 21
        x = Tape.coded("row 0 . . 0 0 0 . 0; row . 0 . 0 . . . 0; row . 0 . . . 0 0 0; row 0 0 . 0 . 0 0 .;");
        Due.is("slots of the third sweep", x.pipe(0, 6, 0), 21);
        Due.is("stalls of the third sweep", x.pipe(0, 6, 1), 4);
    }

    private static void p59to60Clashes() {
        LiftedChecks x = Tape.coded("row 0 0 0 .; row 0 0 . .; row . . 0 0; row . 0 0 0;");
        // together: 01 2, 02 1, 03 2, 12 0, 13 1, 23 2
        Due.is("clashes of 0 1 2 3", x.clashes(0), 2 + 0 + 2 + 2);
        Due.is("clashes of 0 1 3 2", x.clashes(1), 2 + 1 + 2 + 1);
        Due.is("clashes of 0 2 1 3", x.clashes(2), 1 + 0 + 1 + 2);
        Due.is("clashes of 3 2 1 0", x.clashes(23), 2 + 0 + 2 + 2);
        Due.is("calmest", x.calmest(), 2);
        Due.is("clashes(24)", x.clashes(24), -1);
        Due.is("clashes(-1)", x.clashes(-1), -1);
        x = Tape.coded(PAIRS);
        Due.is("two rows count twice", x.clashes(0), 2);
        Due.is("calmest of like ones", x.calmest(), 0);
        Due.is("one row", new LiftedChecks().clashes(0), 0);
    }

    private static void p61to63Foretold() {
        LiftedChecks x = heard(PAIRS, 5, -3, 2, 5, -4, 5);
        x.order(1);
        Due.is("foretold(1)", x.foretold(1), 0);
        Due.is("foretold(2)", x.foretold(2), 1);
        Due.is("foretold(80)", x.foretold(80), 1);
        Due.is("believed(1, 0)", x.believed(1, 0), 10);
        Due.is("believed(2, 2)", x.believed(2, 2), -5);
        Due.is("believed(80, 2)", x.believed(80, 2), -5);
        Due.is("till", x.till(), 2);
        Due.is("nothing has changed", x.bit(0, 1), 5);
        Due.is("nothing has changed", x.about(1), 8);
        int[] others = {0, 81, -1, MIN};
        for (int n : others) {
            Due.is("foretold for others", x.foretold(n), -1);
            Due.is("believed for others", x.believed(n, 0), -100);
        }
        Due.is("believed(1, 6)", x.believed(1, 6), -100);
        Due.is("believed(1, -1)", x.believed(1, -1), -100);
        x.step(80);
        Due.is("foretold without steps", x.foretold(1), 1);
        Due.is("believed without steps", x.believed(1, 2), -5);
        Due.is("till without steps", x.till(), 0);
        x = heard(FOUR, 3, -3, 3, -3);
        x.begin(0);
        Due.is("till of STATE 2", x.till(), 80);
    }

    private static void p64Fewer() {
        LiftedChecks x = heard("row 0 .;", -7, 0);
        Due.is("by none", x.fewer(), -1);
        Due.is("nothing is begun", x.is(6), 1);
        x = heard(PAIRS, 5, -3, 2, 5, -4, 5);
        Due.is("of like ones 0", x.fewer(), 0);
        x.begin(1);
        Due.is("mode as it is", x.is(5), 1);
        // both end with a word, MODE 0 behind 3 SWEEPS, MODE 1 behind 2
        x = heard("row 0 0 0 0; row 0 . . 0; row 0 0 0 0;", -2, 1, -5, 5);
        Due.is("sooner at once", x.fewer(), 1);
        x.begin(0);
        x.step(80);
        Due.is("sweeps by layers", x.is(7), 3);
        x.begin(1);
        x.step(80);
        Due.is("sweeps at once", x.is(7), 2);
        x = heard("row . 0 0; row 0 0 0; row 0 0 .;", 0, -5, -4);
        Due.is("only at once", x.fewer(), 1);
        x = heard("offset 0; row 0 0; row 0 0;", 2, -5);
        Due.is("sooner by layers", x.fewer(), 0);
        x = heard("offset 0; row 0 0 . 0; row 0 0 . 0;", 2, 5, -2, -2);
        Due.is("only by layers", x.fewer(), 0);
    }

    private static void p65Trials() {
        LiftedChecks x = new LiftedChecks();
        Due.is("lost", x.trials(10, 50, 1, 2), 1);
        Due.is("right", x.trials(10, 50, 1, 0), 0);
        Due.is("sweeps", x.trials(10, 50, 1, 3), 20);
        Due.is("all wrong", x.trials(10, 100, 20, 1), 20);
        Due.is("all right", x.trials(10, 0, 20, 0), 20);
        Due.is("no sweeps", x.trials(10, 0, 20, 3), 0);
        Due.is("X stays", x.is(9), 613);
        Due.is("heard stays", x.bit(0, 0), 0);
        Due.is("no step", x.about(1), 0);
        int[][] others = {{0, 0, 1, 0}, {32, 0, 1, 0}, {1, -1, 1, 0}, {1, 101, 1, 0}, {1, 0, 0, 0}, {1, 0, 21, 0},
            {1, 0, 1, -1}, {1, 0, 1, 4}};
        for (int[] o : others) {
            Due.is("trials for others", x.trials(o[0], o[1], o[2], o[3]), -1);
        }
        x.encode(1);
        Due.is("SENT is right", x.trials(10, 0, 3, 0), 3);
        // each trial goes on with X of that ahead of it
        int drawn = 613;
        int right = 0;
        for (int n = 0; n < 20; n++) {
            boolean[] spoilt = new boolean[2];
            for (int bit = 0; bit < 2; bit++) {
                drawn = (drawn * 839 + 577) % 30071;
                spoilt[bit] = drawn % 100 < 30;
            }
            right += spoilt[0] || spoilt[1] ? 0 : 1;
        }
        Due.is("right of twenty", x.trials(10, 30, 20, 0), right);
    }

    private static void p66Mean() {
        LiftedChecks x = new LiftedChecks();
        Due.is("mean of 0", x.mean(), Double.doubleToLongBits(0.0));
        for (int columns = 1; columns <= 8; columns++) {
            for (int lift = 1; lift <= 6; lift++) {
                x = Tape.coded("lift " + lift + "; row" + " 0".repeat(columns) + ";");
                int sum = 0;
                for (int bit = 0; bit < lift * columns; bit += 5) {
                    int value = bit % 2 == 0 ? 31 - bit % 7 : -3 - bit % 11;
                    x.hear(bit, value);
                    sum += Math.abs(value);
                }
                x.begin(0);
                Due.is("mean", x.mean(), Double.doubleToLongBits((double) sum / (double) (lift * columns)));
            }
        }
    }

    private static void p67to68Image() {
        LiftedChecks x = heard(PAIRS, 5, -3, 2, 5, -4, 5);
        x.encode(1);
        x.begin(0);
        x.step(1);
        x.tell(42);
        Due.is("image", x.image(), 6);
        Tape.put(x, "row 0;");
        x.load(x.text());
        Tape.put(x, "row x");
        x.text();
        x.feed(0, 0, 0, 0, 0);
        x.tell(1);
        for (int n = 0; n < 25; n++) {
            x.hear(0, n);
        }
        Due.is("back", x.back(), 6);
        Due.is("the tape is as it is", x.about(2), 20);
        Due.is("the fault is as it is", x.fault(1), 4);
        Due.is("texts are so again", x.about(0), 1);
        Due.is("a text that is no more", x.load(1), -1);
        Due.is("X", x.is(9), 42);
        Due.is("sent", x.sent(), 22);
        Due.is("belief", x.bit(2, 1), -3 + 2);
        Due.is("message", x.message(1, 2), -3);
        Due.is("steps are so again", x.about(1), 10);
        Due.is("undo behind back", x.undo(), 9);
        Due.is("belief", x.bit(2, 1), 2);
        x.undo();
        x.undo();
        Due.is("sent ahead", x.sent(), 0);
        Due.is("the image stays", x.back(), 6);
        Due.is("the image stays", x.sent(), 22);
        Due.is("steps are so again", x.about(1), 10);
        Tape.put(x, "row 0 0 0;");
        Due.is("a text behind back", x.text(), 1);
        Due.is("its code", x.load(1), 3);
    }

    private static void p69About() {
        LiftedChecks x = Tape.coded(FOUR);
        x.feed(0, 0, 0, 0, 0);
        Due.is("texts", x.about(0), 1);
        Due.is("steps", x.about(1), 1);
        Due.is("bytes", x.about(2), 20);
        Due.is("orders", x.about(3), 24);
        Due.is("about(4)", x.about(4), -2);
        Due.is("about(-1)", x.about(-1), -2);
        Due.is("orders of three", Tape.coded(TRIANGLE).about(3), 6);
        Due.is("orders of one", new LiftedChecks().about(3), 1);
    }
}
