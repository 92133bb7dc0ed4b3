/** The bounds of the calls that change what is (promises 7 to 16): both sides of each, and that a refused one does nothing. */
public final class ChangeBoundsTest {
    private static final int MIN = Integer.MIN_VALUE;
    private static final int MAX = Integer.MAX_VALUE;
    private static final String FULL = "lift 6;" + "row 0 1 2 3 4 5 0 1;".repeat(4);
    private static final String ALL_EMPTY = "lift 6; row . . . . . . . .;";
    /** BIT 4 alone keeps a CHECK odd, so STEPS go on till the SWEEPS are over. */
    private static final String NEVER = "row 0 0 . . .; row . . 0 0 .; row 0 . . 0 .; row . . . . 0;";

    private ChangeBoundsTest() {
    }

    public static void main(String[] args) {
        encodeUpToAllCarriers();
        encodeTellsCarriersFromTheLowest();
        raiseOfColumns();
        slideOfRows();
        shiftsGoRound();
        hearOfBits();
        hearOfValues();
        sendOfLevels();
        sendOfSpoil();
        drawsGoRound();
        drawsBelowSpoil();
        beginOfModes();
        orderOfNumbers();
        stepsUpTo80();
        sweepsUpTo20();
        aWordInTheLastSweep();
        stepsThatThereAreNone();
        undoOfTwenty();
        undoOfEachKind();
        tellOfX();
        callsUpTo512();
        Due.end();
    }

    private static LiftedChecks heard(String text, int... values) {
        LiftedChecks x = Tape.coded(text);
        for (int bit = 0; bit < values.length; bit++) {
            x.hear(bit, values[bit]);
        }
        return x;
    }

    private static void encodeUpToAllCarriers() {
        String[] texts = {"row 0;", "row 0 0;", "row 0 0 0;", "lift 2; row 0 0 0 0 0 0 0;", ALL_EMPTY,
            "lift 6; row 0 0 0 0 0 0 0 0;"};
        int[] carriers = {0, 1, 2, 12, 48, 42};
        for (int k = 0; k < texts.length; k++) {
            LiftedChecks x = Tape.coded(texts[k]);
            long all = (1L << carriers[k]) - 1;
            Due.is("encode(0)", x.encode(0), 0);
            Due.is("all carriers", x.encode(all) >= carriers[k], true);
            long sent = x.sent();
            Due.is("it is a word", x.odds(sent), 0);
            long[] refused = {all + 1, 2 * all + 2, all + (1L << 50), 1L << 62, Long.MAX_VALUE, -1, Long.MIN_VALUE, -all - 1};
            for (long number : refused) {
                Due.is("encode(" + number + ")", x.encode(number), -1);
                Due.is("sent stays", x.sent(), sent);
            }
            Due.is("two steps beside the load", x.about(1), 3);
        }
    }

    private static void encodeTellsCarriersFromTheLowest() {
        LiftedChecks x = Tape.coded("row 0 . 0 0; row . . 0 .;");
        // CHECK 1 tells BIT 2, CHECK 0 tells BIT 0 by BIT 3; BITS 1 and 3 carry
        long[] due = {0, 2, 9, 11};
        for (int n = 0; n < 4; n++) {
            Due.is("encode", x.encode(n), Long.bitCount(due[n]));
            Due.is("sent", x.sent(), due[n]);
        }
        Due.is("encode(4)", x.encode(4), -1);
        Due.is("sent stays", x.sent(), 11);
        // the second CHECK tells the first BIT: BITS 2 and 3 carry
        x = Tape.coded("row . 0 0 0; row 0 . 0 .;");
        long[] other = {0, 7, 10, 13};
        for (int n = 0; n < 4; n++) {
            Due.is("encode", x.encode(n), Long.bitCount(other[n]));
            Due.is("sent", x.sent(), other[n]);
        }
        x = Tape.coded(ALL_EMPTY);
        Due.is("the last carrier", x.encode(1L << 47), 1);
        Due.is("the last BIT", x.sent(), 1L << 47);
        Due.is("bit 31 of the number", x.encode(1L << 31), 1);
        Due.is("is BIT 31", x.sent(), 1L << 31);
        Due.is("one more than the last", x.encode(1L << 48), -1);
    }

    private static void raiseOfColumns() {
        LiftedChecks x = Tape.coded("lift 6; row 0 1 .; row 5 . 2;");
        int[][] refused = {{-1, 1}, {3, 1}, {8, 1}, {MIN, 1}, {MAX, 1}, {0, 0}, {0, 6}, {0, -1}, {0, MIN}, {0, MAX}, {2, 0},
            {2, 6}};
        for (int[] r : refused) {
            Due.is("raise(" + r[0] + ", " + r[1] + ")", x.raise(r[0], r[1]), false);
            Due.is("no step", x.about(1), 1);
            Due.is("shift stays", x.shift(1, 0), 5);
            Due.is("shift stays", x.shift(1, 2), 2);
        }
        Due.is("the first by 1", x.raise(0, 1), true);
        Due.is("0 and 1", x.shift(0, 0), 1);
        Due.is("5 and 1", x.shift(1, 0), 0);
        Due.is("the last by 5", x.raise(2, 5), true);
        Due.is("2 and 5", x.shift(1, 2), 1);
        Due.is("EMPTY stays", x.shift(0, 2), -1);
        Due.is("others stay", x.shift(0, 1), 1);
        x = Tape.coded(FULL);
        Due.is("the eighth column", x.raise(7, 1), true);
        Due.is("1 and 1", x.shift(3, 7), 2);
        Due.is("no ninth", x.raise(8, 1), false);
        x = Tape.coded("row .;");
        Due.is("an EMPTY column", x.raise(0, 3), true);
        Due.is("it stays", x.shift(0, 0), -1);
        Due.is("but it is a step", x.about(1), 2);
    }

    private static void slideOfRows() {
        LiftedChecks x = Tape.coded("lift 6; row 0 5; row 1 .; row . 2;");
        int[][] refused = {{-1, 1}, {3, 1}, {4, 1}, {MIN, 1}, {MAX, 1}, {0, 0}, {0, 6}, {0, -1}, {0, MIN}, {0, MAX}, {2, 0},
            {2, 6}};
        for (int[] r : refused) {
            Due.is("slide(" + r[0] + ", " + r[1] + ")", x.slide(r[0], r[1]), false);
            Due.is("no step", x.about(1), 1);
            Due.is("shift stays", x.shift(0, 1), 5);
            Due.is("shift stays", x.shift(2, 1), 2);
        }
        Due.is("the first by 1", x.slide(0, 1), true);
        Due.is("0 and 1", x.shift(0, 0), 1);
        Due.is("5 and 1", x.shift(0, 1), 0);
        Due.is("the last by 5", x.slide(2, 5), true);
        Due.is("2 and 5", x.shift(2, 1), 1);
        Due.is("EMPTY stays", x.shift(2, 0), -1);
        Due.is("others stay", x.shift(1, 0), 1);
        x = Tape.coded(FULL);
        Due.is("the fourth row", x.slide(3, 1), true);
        Due.is("1 and 1", x.shift(3, 7), 2);
        Due.is("the third stays", x.shift(2, 7), 1);
        Due.is("no fifth", x.slide(4, 1), false);
        x = Tape.coded("row .;");
        Due.is("an EMPTY row", x.slide(0, 3), true);
        Due.is("but it is a step", x.about(1), 2);
    }

    private static void shiftsGoRound() {
        for (int lift = 1; lift <= 6; lift++) {
            for (int by = 1; by <= 5; by++) {
                for (int shift = 0; shift < lift; shift++) {
                    LiftedChecks x = Tape.coded("lift " + lift + "; row " + shift + ";");
                    Due.is("raise", x.raise(0, by), true);
                    Due.is("raised, mod LIFT", x.shift(0, 0), (shift + by) % lift);
                    Due.is("the BIT it has", x.has(0, 0), (shift + by) % lift);
                    Due.is("slide", x.slide(0, by), true);
                    Due.is("slid, mod LIFT", x.shift(0, 0), (shift + 2 * by) % lift);
                    Due.is("the BIT of the last CHECK", x.has(lift - 1, 0), (lift - 1 + shift + 2 * by) % lift);
                }
            }
        }
    }

    private static void hearOfBits() {
        LiftedChecks x = Tape.coded(FULL);
        int[] refused = {-1, 48, 49, MIN, MAX};
        for (int bit : refused) {
            Due.is("hear of " + bit, x.hear(bit, 1), false);
        }
        Due.is("no step", x.about(1), 1);
        Due.is("the first", x.hear(0, 1), true);
        Due.is("the last", x.hear(47, 2), true);
        Due.is("heard", x.bit(0, 0), 1);
        Due.is("heard", x.bit(47, 0), 2);
        Due.is("not heard", x.bit(46, 0), 0);
        x = Tape.coded("row 0;");
        Due.is("the only one", x.hear(0, 1), true);
        Due.is("no other", x.hear(1, 1), false);
    }

    private static void hearOfValues() {
        LiftedChecks x = new LiftedChecks();
        int steps = 0;
        for (int value = -35; value <= 35; value++) {
            boolean taken = value >= -31 && value <= 31;
            int ahead = x.bit(1, 0);
            Due.is("hear " + value, x.hear(1, value), taken);
            Due.is("heard", x.bit(1, 0), taken ? value : ahead);
            steps = Math.min(steps + (taken ? 1 : 0), 20);
            Due.is("steps", x.about(1), steps);
        }
        Due.is("hear MIN", x.hear(0, MIN), false);
        Due.is("hear MAX", x.hear(0, MAX), false);
        Due.is("the other BIT stays", x.bit(0, 0), 0);
        Due.is("BELIEFS wait", x.bit(1, 1), 0);
        x.hear(0, -31);
        Due.is("the same once more is a step", x.hear(0, -31), true);
        x.begin(0);
        Due.is("BEGUN", x.bit(0, 1), -31);
    }

    private static void sendOfLevels() {
        LiftedChecks x = Tape.coded("row 0 0 0;");
        int[] refused = {0, -1, 32, MIN, MAX};
        for (int level : refused) {
            Due.is("send by " + level, x.send(level, 0), -1);
            Due.is("X stays", x.is(9), 613);
            Due.is("heard stays", x.bit(0, 0), 0);
        }
        Due.is("no step", x.about(1), 1);
        x.encode(1);
        Due.is("sent", x.sent(), 3);
        int[] levels = {1, 2, 30, 31};
        for (int level : levels) {
            Due.is("send by " + level, x.send(level, 0), 0);
            Due.is("a BIT of SENT", x.bit(0, 0), -level);
            Due.is("another", x.bit(2, 0), level);
            Due.is("send, all spoilt", x.send(level, 100), 3);
            Due.is("a BIT of SENT", x.bit(0, 0), level);
            Due.is("another", x.bit(2, 0), -level);
        }
    }

    private static void sendOfSpoil() {
        LiftedChecks x = Tape.coded(FULL);
        int[] refused = {-1, 101, MIN, MAX};
        for (int spoil : refused) {
            Due.is("send spoils " + spoil, x.send(5, spoil), -1);
            Due.is("X stays", x.is(9), 613);
        }
        Due.is("no step", x.about(1), 1);
        Due.is("spoils none of 48", x.send(5, 0), 0);
        Due.is("spoils all of 48", x.send(5, 100), 48);
        Due.is("steps", x.about(1), 3);
        Due.is("X went on 96 times", x.is(9), gone(613, 96));
    }

    private static int gone(int from, int times) {
        long drawn = from;
        for (int n = 0; n < times; n++) {
            drawn = (drawn * 839 + 577) % 30071;
        }
        return (int) drawn;
    }

    private static void drawsGoRound() {
        // 35 * 839 + 577 is below 30071, 36 * 839 + 577 is not; 11827 and 14766 come to the ends
        int[][] draws = {{0, 577}, {35, 29942}, {36, 710}, {11827, 0}, {14766, 30070}, {8888, 1}, {30070, 29809}};
        for (int[] draw : draws) {
            LiftedChecks x = Tape.coded("row 0;");
            Due.is("tell", x.tell(draw[0]), true);
            x.send(1, 0);
            Due.is("X behind " + draw[0], x.is(9), draw[1]);
        }
        LiftedChecks x = new LiftedChecks();
        x.tell(30070);
        x.send(1, 0);
        Due.is("one draw for each BIT", x.is(9), gone(29809, 1));
    }

    private static void drawsBelowSpoil() {
        // X behind it, by mod 100
        int[][] draws = {{11827, 0}, {35, 42}, {184, 98}, {76, 99}, {46, 0}};
        for (int[] draw : draws) {
            for (int more = 0; more < 2; more++) {
                LiftedChecks x = Tape.coded("row 0;");
                x.tell(draw[0]);
                Due.is("spoil " + (draw[1] + more), x.send(4, draw[1] + more), more);
                Due.is("heard", x.bit(0, 0), more == 0 ? 4 : -4);
            }
        }
    }

    private static void beginOfModes() {
        LiftedChecks x = new LiftedChecks();
        int[] refused = {-1, 2, 3, MIN, MAX};
        x.hear(0, -4);
        for (int mode : refused) {
            Due.is("begin(" + mode + ")", x.begin(mode), -1);
            Due.is("nothing is begun", x.bit(0, 1), 0);
            Due.is("mode stays", x.is(5), 0);
            Due.is("no step", x.about(1), 1);
        }
        Due.is("begin(0)", x.begin(0), 0);
        Due.is("mode", x.is(5), 0);
        Due.is("begin(1)", x.begin(1), 0);
        Due.is("mode", x.is(5), 1);
        Due.is("begin(2)", x.begin(2), -1);
        Due.is("mode stays", x.is(5), 1);
        Due.is("steps", x.about(1), 3);
        x.hear(1, -1);
        Due.is("both are below 0", x.begin(1), 1);
        x.hear(1, 0);
        Due.is("0 is not below 0", x.begin(1), 0);
        Due.is("so it is no guess", x.guess(), 1);
    }

    private static void orderOfNumbers() {
        int[] orders = {1, 2, 6, 24};
        for (int rows = 1; rows <= 4; rows++) {
            LiftedChecks x = Tape.coded("row 0;".repeat(rows));
            int many = orders[rows - 1];
            Due.is("orders", x.about(3), many);
            int[] refused = {-1, many, many + 1, MIN, MAX};
            for (int number : refused) {
                Due.is("order(" + number + ")", x.order(number), false);
            }
            Due.is("no step", x.about(1), 1);
            Due.is("the last", x.order(many - 1), true);
            for (int place = 0; place < rows; place++) {
                Due.is("the other way round", x.layer(place), rows - 1 - place);
            }
            Due.is("refused", x.order(many), false);
            Due.is("it stays", x.layer(0), rows - 1);
            Due.is("the first", x.order(0), true);
            for (int place = 0; place < rows; place++) {
                Due.is("by numbers", x.layer(place), place);
            }
            Due.is("steps", x.about(1), 3);
        }
        allOrdersOfFour();
    }

    private static void allOrdersOfFour() {
        LiftedChecks x = Tape.coded("row 0;".repeat(4));
        int ahead = 0;
        for (int number = 0; number < 24; number++) {
            x.order(number);
            int told = 0;
            int seen = 0;
            for (int place = 0; place < 4; place++) {
                told = told * 10 + x.layer(place);
                seen |= 1 << x.layer(place);
            }
            Due.is("each LAYER once", seen, 15);
            Due.is("by their first unlike number", number == 0 ? told == 123 : told > ahead, true);
            ahead = told;
        }
    }

    private static void stepsUpTo80() {
        LiftedChecks x = heard(NEVER, 3, 3, 3, 3, -1);
        x.begin(0);
        int steps = x.about(1);
        int[] refused = {0, -1, 81, 100, MIN, MAX};
        for (int n : refused) {
            Due.is("step(" + n + ")", x.step(n), -1);
            Due.is("none is gone", x.book(-1, 0), 0);
            Due.is("no step", x.about(1), steps);
        }
        Due.is("step(1)", x.step(1), 1);
        Due.is("one step to take back", x.about(1), steps + 1);
        Due.is("step(80) of 79", x.step(80), 79);
        Due.is("together one", x.about(1), steps + 2);
        Due.is("no more", x.step(1), -1);
        Due.is("no step", x.about(1), steps + 2);
        x.undo();
        Due.is("step(79) of 79", x.step(79), 79);
        x.begin(0);
        Due.is("step(79) of 80", x.step(79), 79);
        Due.is("one is left", x.is(6), 0);
        Due.is("step(2) of 1", x.step(2), 1);
        x.begin(0);
        Due.is("step(80) of 80", x.step(80), 80);
        Due.is("state", x.is(6), 2);
    }

    private static void sweepsUpTo20() {
        String[] texts = {"row 0;", "row 0; row .;", "row 0; row .; row .;", "row 0; row .; row .; row .;"};
        for (int rows = 1; rows <= 4; rows++) {
            LiftedChecks x = heard(texts[rows - 1], -3);
            x.begin(0);
            Due.is("all but one", x.step(20 * rows - 1), 20 * rows - 1);
            Due.is("sweeps", x.is(7), 19);
            Due.is("at", x.is(8), rows - 1);
            Due.is("state", x.is(6), 0);
            Due.is("the last", x.step(1), 1);
            Due.is("sweeps", x.is(7), 20);
            Due.is("at", x.is(8), 0);
            Due.is("state", x.is(6), 2);
            x.begin(1);
            Due.is("all but one at once", x.step(19), 19);
            Due.is("sweeps", x.is(7), 19);
            Due.is("at", x.is(8), 0);
            Due.is("state", x.is(6), 0);
            Due.is("the last", x.step(80), 1);
            Due.is("sweeps", x.is(7), 20);
            Due.is("at", x.is(8), 0);
            Due.is("state", x.is(6), 2);
        }
    }

    /** Found by PlainModel: no CHECK is ODD just when the SWEEPS are over, so STATE is 1, not 2. */
    private static void aWordInTheLastSweep() {
        LiftedChecks x = heard("offset 0; row 0 0 0 . 0; row 0 . 0 0 0; row . . 0 0 0; row 0 0 0 0 .;", 18, 10, -25, -11, 0);
        x.begin(0);
        Due.is("steps ahead of it", x.step(79), 79);
        Due.is("state", x.is(6), 0);
        Due.is("the last", x.step(1), 1);
        Due.is("sweeps", x.is(7), 20);
        Due.is("state", x.is(6), 1);
        Due.is("no more", x.step(1), -1);
        x = heard("lift 2; most 24; row 1 0; row 0 0; row . .; row 1 1;", 3, -6, 24, -22);
        x.begin(1);
        Due.is("steps ahead of it", x.step(19), 19);
        Due.is("state", x.is(6), 0);
        Due.is("the last", x.step(1), 1);
        Due.is("sweeps", x.is(7), 20);
        Due.is("state", x.is(6), 1);
        // in the midst of the last SWEEP
        x = heard("offset 0; most 27; row 0 . 0 . 0; row 0 0 0 . 0; row 0 . . . 0; row 0 0 0 . .;", -25, -14, -11, -14, -21);
        x.begin(0);
        Due.is("as many as there are", x.step(80), 79);
        Due.is("sweeps", x.is(7), 19);
        Due.is("at", x.is(8), 3);
        Due.is("state", x.is(6), 1);
    }

    private static void stepsThatThereAreNone() {
        LiftedChecks x = new LiftedChecks();
        Due.is("a new one has STATE 1", x.step(1), -1);
        Due.is("no step", x.about(1), 0);
        x.hear(0, -3);
        Due.is("HEARD leaves STATE", x.step(80), -1);
        x.begin(1);
        Due.is("BEGUN", x.step(1), 1);
        x = heard("row 0;", -3);
        x.begin(0);
        x.step(80);
        Due.is("state 2", x.step(80), -1);
        Due.is("book", x.book(-1, 0), 16);
        Due.is("steps", x.about(1), 4);
    }

    private static void undoOfTwenty() {
        LiftedChecks x = new LiftedChecks();
        Due.is("undo of none", x.undo(), -1);
        Due.is("of none", x.about(1), 0);
        for (int n = 1; n <= 31; n++) {
            x.hear(0, n);
            Due.is("steps", x.about(1), Math.min(n, 20));
            if (n == 19 || n == 20 || n == 21) {
                undoAll(n);
            }
        }
        // those that come behind some taken back
        for (int n = 19; n >= 15; n--) {
            Due.is("undo", x.undo(), n);
            Due.is("heard", x.bit(0, 0), n + 11);
        }
        for (int n = 1; n <= 6; n++) {
            x.hear(1, n);
        }
        Due.is("twenty again", x.about(1), 20);
        for (int n = 19; n >= 0; n--) {
            Due.is("undo", x.undo(), n);
            Due.is("heard", x.bit(1, 0), n >= 14 ? n - 14 : 0);
            Due.is("heard", x.bit(0, 0), n >= 14 ? 26 : n + 12);
        }
        Due.is("undo of none", x.undo(), -1);
        Due.is("heard stays", x.bit(0, 0), 12);
    }

    private static void undoAll(int told) {
        LiftedChecks x = new LiftedChecks();
        for (int n = 1; n <= told; n++) {
            x.hear(0, n);
        }
        int can = Math.min(told, 20);
        for (int n = can - 1; n >= 0; n--) {
            Due.is("undo", x.undo(), n);
            Due.is("heard", x.bit(0, 0), told - can + n);
        }
        Due.is("undo of none", x.undo(), -1);
        Due.is("heard stays", x.bit(0, 0), told - can);
    }

    private static void undoOfEachKind() {
        LiftedChecks x = heard("lift 2; row 0 1; row 1 0;", 3, -4, 5, 6);
        Whole[] ahead = new Whole[10];
        for (int kind = 0; kind < 10; kind++) {
            ahead[kind] = Whole.of(x);
            Due.is("kind " + kind, change(x, kind), true);
            Due.is("one step more", x.about(1), 6 + kind);
        }
        for (int kind = 9; kind >= 0; kind--) {
            Due.is("undo", x.undo(), 5 + kind);
            Whole.of(x).isLike("kind " + kind + " taken back", ahead[kind]);
        }
    }

    private static boolean change(LiftedChecks x, int kind) {
        switch (kind) {
            case 0: return x.encode(1) >= 0;
            case 1: return x.send(7, 50) >= 0;
            case 2: return x.hear(2, -31);
            case 3: return x.begin(0) == 0;
            case 4: return x.step(2) > 0;
            case 5: return x.order(1);
            case 6: return x.begin(1) >= 0;
            case 7: return x.raise(0, 1);
            case 8: return x.slide(1, 1);
            default: return x.load(0) == 4;
        }
    }

    private static void tellOfX() {
        LiftedChecks x = new LiftedChecks();
        int[] refused = {-1, 30071, 30072, MIN, MAX};
        for (int told : refused) {
            Due.is("tell(" + told + ")", x.tell(told), false);
            Due.is("X stays", x.is(9), 613);
        }
        int[] taken = {0, 1, 30069, 30070};
        for (int told : taken) {
            Due.is("tell(" + told + ")", x.tell(told), true);
            Due.is("X", x.is(9), told);
        }
        Due.is("it is no step", x.about(1), 0);
        Due.is("it can't be taken back", x.undo(), -1);
        Due.is("X stays", x.is(9), 30070);
    }

    /** An object is used for at most 512 calls: the last ones are answered as any other. */
    private static void callsUpTo512() {
        LiftedChecks x = new LiftedChecks();
        for (int call = 1; call <= 508; call++) {
            Due.is("hear", x.hear(call % 2, call % 63 - 31), true);
        }
        Due.is("call 509", x.bit(0, 0), 508 % 63 - 31);
        Due.is("call 510", x.undo(), 19);
        Due.is("call 511", x.bit(0, 0), 506 % 63 - 31);
        Due.is("call 512", x.begin(0), (506 % 63 - 31 < 0) == (507 % 63 - 31 < 0) ? 1 : 0);
    }
}
