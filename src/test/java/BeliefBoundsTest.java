/** The bounds within a STEP: MESSAGES, BELIEFS, the BOOK, what has TURNED (the Terms; promises 14, 24 to 32). */
public final class BeliefBoundsTest {
    private static final int MIN = Integer.MIN_VALUE;
    private static final int MAX = Integer.MAX_VALUE;
    /** BIT 0 has three CHECKS with one other BIT each; BIT 4 keeps the last CHECK odd. */
    private static final String STAR = "offset 0; most 31; row 0 0 . . .; row 0 . 0 . .; row 0 . . 0 .; row . . . . 0;";

    private BeliefBoundsTest() {
    }

    public static void main(String[] args) {
        beliefHeldByLayers();
        beliefHeldAtOnce();
        beliefHeldIsGoneOnWith();
        messageOfAtLeastZero();
        messageOfAtMostMost();
        messageWithoutOthers();
        messageByTheLeastOfTheOthers();
        signsOfMessages();
        guessBelowZero();
        bookUpTo16();
        bookAskedFor();
        turnedAndRestless();
        bitsAskedFor();
        messagesAskedFor();
        oddAskedFor();
        Due.end();
    }

    private static LiftedChecks begun(String text, int mode, int... values) {
        LiftedChecks x = Tape.coded(text);
        for (int bit = 0; bit < values.length; bit++) {
            x.hear(bit, values[bit]);
        }
        x.begin(mode);
        return x;
    }

    private static int held(int value) {
        return Math.max(-99, Math.min(99, value));
    }

    private static void beliefHeldByLayers() {
        int[][] others = {{23, 23, 21}, {23, 22, 23}, {23, 23, 23}, {31, 31, 31}};
        int[] due = {98, 99, 100, 124};
        for (int k = 0; k < 4; k++) {
            for (int sign = -1; sign <= 1; sign += 2) {
                LiftedChecks x = begun(STAR, 0, 31 * sign, others[k][0] * sign, others[k][1] * sign, others[k][2] * sign, -1);
                x.step(2);
                Due.is("two of three", x.bit(0, 1), sign * (31 + others[k][0] + others[k][1]));
                x.step(1);
                Due.is("held by layers, " + due[k] * sign, x.bit(0, 1), held(due[k] * sign));
            }
        }
    }

    private static void beliefHeldAtOnce() {
        int[][] others = {{23, 23, 21}, {23, 22, 23}, {23, 23, 23}, {31, 31, 31}};
        int[] due = {98, 99, 100, 124};
        for (int k = 0; k < 4; k++) {
            for (int sign = -1; sign <= 1; sign += 2) {
                LiftedChecks x = begun(STAR, 1, 31 * sign, others[k][0] * sign, others[k][1] * sign, others[k][2] * sign, -1);
                x.step(1);
                Due.is("held at once, " + due[k] * sign, x.bit(0, 1), held(due[k] * sign));
            }
        }
        // all together is held, not each sum on the way to it
        LiftedChecks x = begun("offset 0; most 31; row 0 0 . .; row 0 . 0 .; row 0 . . 0; row 0 . . 0;", 1, 31, 31, 31, -20);
        x.step(1);
        Due.is("31 and 31 and 31 less 40", x.bit(0, 1), 31 + 31 + 31 - 20 - 20);
        x = begun("offset 0; most 31; row 0 0 . .; row 0 0 . .; row 0 . 0 .; row 0 . . 0;", 1, 31, 31, 31, -31);
        x.step(1);
        Due.is("124 on the way", x.bit(0, 1), 31 + 31 + 31 + 31 - 31);
    }

    /** The next STEP goes on with the BELIEF as held: 99 less 31, not 124 less 31. */
    private static void beliefHeldIsGoneOnWith() {
        String text = "offset 0; most 31; row 0 0 . . .; row 0 . 0 . .; row 0 . . 0 .; row 0 . . . 0;";
        LiftedChecks x = begun(text, 0, 31, 31, 31, 31, -31);
        x.step(3);
        Due.is("held", x.bit(0, 1), 99);
        x.step(1);
        Due.is("less 31 from what is held", x.bit(0, 1), 68);
        Due.is("the other one by 99", x.bit(4, 1), 0);
        Due.is("state", x.is(6), 1);
        x = begun(text, 0, -31, -31, -31, -31, 31);
        x.step(4);
        Due.is("likewise below 0", x.bit(0, 1), -68);
    }

    private static void messageOfAtLeastZero() {
        for (int offset = 0; offset <= 9; offset++) {
            for (int size = Math.max(offset - 2, 0); size <= offset + 2; size++) {
                for (int sign = -1; sign <= 1; sign += 2) {
                    LiftedChecks x = begun("offset " + offset + "; row 0 0 .; row . . 0;", 0, sign * size, 12, -1);
                    x.step(1);
                    Due.is("rest " + sign * size + " less " + offset, x.message(0, 1), sign * Math.max(size - offset, 0));
                    Due.is("belief", x.bit(1, 1), 12 + sign * Math.max(size - offset, 0));
                }
            }
        }
    }

    private static void messageOfAtMostMost() {
        int[] mosts = {1, 2, 15, 30, 31};
        for (int most : mosts) {
            for (int size = Math.max(most - 1, 0); size <= Math.min(most + 1, 31); size++) {
                for (int sign = -1; sign <= 1; sign += 2) {
                    LiftedChecks x = begun("offset 0; most " + most + "; row 0 0 .; row . . 0;", 0, sign * size, 31, -1);
                    x.step(1);
                    Due.is("rest " + sign * size + ", most " + most, x.message(0, 1), sign * Math.min(size, most));
                }
            }
        }
        // the OFFSET comes ahead of MOST
        int[] sizes = {13, 14, 15};
        for (int size : sizes) {
            LiftedChecks x = begun("offset 4; most 10; row 0 0 .; row . . 0;", 1, size, 31, -1);
            x.step(1);
            Due.is("less the offset, then held", x.message(0, 1), Math.min(size - 4, 10));
        }
        LiftedChecks x = begun("row 0 0 .; row . . 0;", 0, 17, 16, -1);
        x.step(1);
        Due.is("at first MOST is 15", x.message(0, 1), 15);
        Due.is("at first OFFSET is 1", x.message(0, 0), 15);
        // RESTS of more than 31 come of BELIEFS
        x = begun(STAR, 0, 31, 31, 31, 31, -1);
        x.step(4);
        Due.is("rest of 62", x.message(1, 2), 31);
    }

    private static void messageWithoutOthers() {
        for (int mode = 0; mode <= 1; mode++) {
            LiftedChecks x = begun("offset 0; row 0 .; row . .;", mode, -31, 9);
            Due.is("step", x.step(2), 2);
            Due.is("no other BITS: 0", x.message(0, 0), 0);
            Due.is("belief stays", x.bit(0, 1), -31);
            Due.is("no CHECK at all", x.bit(1, 1), 9);
            x = begun("offset 0; row 0 0 .; row . . 0;", mode, -31, 9, -1);
            x.step(1);
            Due.is("one other", x.message(0, 0), 9);
            Due.is("one other", x.message(0, 1), -15);
        }
    }

    private static void messageByTheLeastOfTheOthers() {
        LiftedChecks x = begun("offset 0; most 31; row 0 0 0 .; row . . . 0;", 0, 5, 8, 11, -1);
        x.step(1);
        Due.is("to the least one: the next", x.message(0, 0), 8);
        Due.is("to the next: the least", x.message(0, 1), 5);
        Due.is("to the greatest: the least", x.message(0, 2), 5);
        x = begun("offset 0; most 31; row 0 0 0 .; row . . . 0;", 0, 6, 6, 11, -1);
        x.step(1);
        Due.is("two are least", x.message(0, 0) * 100 + x.message(0, 1), 606);
        Due.is("to the other", x.message(0, 2), 6);
        x = begun("offset 0; most 31; row 0 0 0 .; row . . . 0;", 0, 0, 6, -6, -1);
        x.step(1);
        Due.is("the least is 0", x.message(0, 1) * 100 + x.message(0, 2), 0);
        Due.is("to it", x.message(0, 0), -6);
    }

    /** Eight BITS of a CHECK: each sign by how many of the other seven are below 0; a REST of 0 is not. */
    private static void signsOfMessages() {
        for (int below = 0; below <= 4; below++) {
            int[] told = new int[8];
            for (int bit = 0; bit < 8; bit++) {
                told[bit] = bit < below ? -5 : 5;
            }
            LiftedChecks x = begun("offset 0; row 0 0 0 0 0 0 0 0;", 0, told);
            Due.is("odd", x.step(1), below % 2 == 0 ? -1 : 1);
            for (int bit = 0; bit < 8 && below % 2 != 0; bit++) {
                int others = below - (bit < below ? 1 : 0);
                Due.is("sign to " + bit + " of " + below, x.message(0, bit), others % 2 == 0 ? 5 : -5);
            }
        }
        LiftedChecks x = begun("offset 0; row 0 0 0;", 0, 0, -3, 4);
        x.step(1);
        Due.is("0 is not below 0", x.message(0, 0), -3);
        Due.is("belief", x.bit(0, 1), -3);
        Due.is("to the others 0", x.message(0, 1) * 100 + x.message(0, 2), 0);
    }

    private static void guessBelowZero() {
        LiftedChecks x = begun("row 0 . . .; row . 0 0 .;", 0, -1, 0, 1, -1);
        Due.is("guess", x.guess(), 9);
        Due.is("in it", x.bit(0, 2), 1);
        Due.is("0 isn't", x.bit(1, 2), 0);
        Due.is("1 isn't", x.bit(2, 2), 0);
        Due.is("odd", x.odd(0), true);
        Due.is("not odd", x.odd(1), false);
        Due.is("one CHECK is odd", x.is(10), 1);
        Due.is("wrong", x.wrong(), 2);
        x = begun("lift 6; row . . . . . . . .;", 0);
        x.hear(47, -1);
        x.hear(31, -1);
        x.hear(32, -1);
        Due.is("no CHECK is odd", x.begin(0), 1);
        Due.is("guess of 48 BITS", x.guess(), 1L << 47 | 1L << 32 | 1L << 31);
        x.encode(1L << 47 | 1);
        Due.is("wrong of 48 BITS", x.wrong(), 3);
    }

    private static void bookUpTo16() {
        // two LAYERS in turn, the second one first, so a line tells which STEP it is of by its place
        LiftedChecks x = begun("row 0 . .; row . 0 0;", 0, -9, 4, -9);
        x.order(1);
        for (int gone = 1; gone <= 40; gone++) {
            x.step(1);
            int lines = Math.min(gone, 16);
            Due.is("lines behind " + gone, x.book(-1, 0), lines);
            int eldest = gone - lines + 1;
            Due.is("the eldest's LAYER", x.book(0, 0), eldest % 2);
            Due.is("the eldest's turned", x.book(0, 1), eldest == 1 ? 1 : 0);
            Due.is("the eldest's odd", x.book(0, 2), 1);
            Due.is("the latest's LAYER", x.book(lines - 1, 0), gone % 2);
            Due.is("the latest's turned", x.book(lines - 1, 1), gone == 1 ? 1 : 0);
            Due.is("none behind it", x.book(lines, 0), -2);
        }
        x.begin(0);
        Due.is("empty by BEGUN", x.book(-1, 0), 0);
        Due.is("no line", x.book(0, 0), -2);
        x.step(16);
        Due.is("16 together", x.book(-1, 0), 16);
        x.step(1);
        Due.is("17 together", x.book(-1, 0), 16);
        x.begin(1);
        x.step(17);
        Due.is("17 at once", x.book(-1, 0), 16);
        for (int i = 0; i < 16; i++) {
            Due.is("at once there is no LAYER", x.book(i, 0), -1);
        }
    }

    private static void bookAskedFor() {
        LiftedChecks x = new LiftedChecks();
        Due.is("lines of a new one", x.book(-1, 0), 0);
        Due.is("no line", x.book(0, 0), -2);
        x = begun("row 0 . .; row . 0 0;", 0, -9, 4, -9);
        x.step(3);
        Due.is("lines", x.book(-1, 0), 3);
        int[][] others = {{3, 0}, {4, 0}, {16, 0}, {-2, 0}, {MIN, 0}, {MAX, 0}, {0, 3}, {0, -1}, {2, 3}, {2, MIN}, {2, MAX},
            {-2, -1}};
        for (int[] o : others) {
            Due.is("book(" + o[0] + ", " + o[1] + ")", x.book(o[0], o[1]), -2);
        }
        int[][] due = {{0, 0, 2}, {1, 1, 1}, {0, 0, 1}};
        for (int i = 0; i < 3; i++) {
            for (int what = 0; what < 3; what++) {
                Due.is("line " + i + " " + what, x.book(i, what), due[i][what]);
            }
        }
    }

    private static void turnedAndRestless() {
        LiftedChecks x = new LiftedChecks();
        Due.is("none has", x.restless(), -1);
        Due.is("turned(0)", x.turned(0), 0);
        Due.is("turned(1)", x.turned(1), 0);
        int[] others = {-1, 2, MIN, MAX};
        for (int bit : others) {
            Due.is("turned(" + bit + ")", x.turned(bit), -1);
        }
        // BITS 1 and 3 turn once, by the first and the second STEP
        x = begun("row 0 0 . . .; row . . 0 0 .; row . . . . 0;", 0, -9, 4, -9, 4, -1);
        Due.is("BEGUN turns none", x.restless(), -1);
        x.step(1);
        Due.is("the first", x.restless(), 1);
        x.step(1);
        Due.is("of like ones the lowest", x.restless(), 1);
        Due.is("turned", x.turned(1) * 10 + x.turned(3), 11);
        x.order(2);
        Due.is("BEGUN", x.turned(1), 0);
        x.step(1);
        Due.is("another order", x.restless(), 3);
        x.step(1);
        Due.is("of like ones the lowest", x.restless(), 1);
        // both turn at once, again and again
        x = begun("offset 0; most 31; row 0 0 .; row 0 0 .; row . . 0;", 1, -5, 4, -1);
        x.step(1);
        Due.is("they change places", x.guess(), 6);
        Due.is("two turned", x.book(0, 1), 2);
        x.step(1);
        Due.is("and back", x.guess(), 5);
        Due.is("left and came", x.turned(0) * 10 + x.turned(1), 22);
        x.hear(0, 31);
        x.hear(1, 31);
        int turned = x.turned(0);
        x.encode(0);
        Due.is("HEARD and ENCODED turn none", x.turned(0), turned);
    }

    private static void bitsAskedFor() {
        LiftedChecks x = new LiftedChecks();
        int[][] others = {{-1, 0}, {2, 0}, {48, 1}, {MIN, 0}, {MAX, 0}, {0, -1}, {0, 5}, {1, 5}, {1, MIN}, {1, MAX}, {2, 5}};
        for (int[] o : others) {
            Due.is("bit(" + o[0] + ", " + o[1] + ")", x.bit(o[0], o[1]), -100);
        }
        int[] due = {0, 0, 0, 0, 1};
        for (int what = 0; what < 5; what++) {
            Due.is("bit(1, " + what + ")", x.bit(1, what), due[what]);
        }
        x = begun("lift 6; row . . . . . . . .;", 0);
        x.encode(1L << 47);
        x.hear(47, -31);
        x.begin(0);
        int[] last = {-31, -31, 1, 1, 1};
        for (int what = 0; what < 5; what++) {
            Due.is("bit(47, " + what + ")", x.bit(47, what), last[what]);
            Due.is("bit(48, " + what + ")", x.bit(48, what), -100);
        }
        Due.is("BIT 15 isn't BIT 47", x.bit(15, 2), 0);
    }

    private static void messagesAskedFor() {
        LiftedChecks x = begun("lift 2; offset 0; row 0 1 .; row . 0 0;", 0, -9, 4, 5, 6, 7, 8);
        x.step(1);
        // CHECK 0 HAS BITS 0 3, CHECK 1 HAS 1 2
        Due.is("to BIT 0", x.message(0, 0), 6);
        Due.is("to BIT 3", x.message(0, 3), -9);
        Due.is("of a LAYER that comes", x.message(3, 5), 0);
        int[][] others = {{0, 1}, {0, 2}, {0, 4}, {1, 0}, {3, 0}, {4, 0}, {-1, 0}, {0, 6}, {0, -1}, {4, 6}, {MIN, 0}, {0, MIN},
            {MAX, MAX}, {24, 0}, {0, 48}};
        for (int[] o : others) {
            Due.is("message(" + o[0] + ", " + o[1] + ")", x.message(o[0], o[1]), -100);
        }
    }

    private static void oddAskedFor() {
        LiftedChecks x = begun("lift 2; row 0 1; row . 0;", 0, -1, -1, -1, 1);
        // CHECKS HAVE 0 3, 1 2, 2, 3
        boolean[] due = {true, false, true, false};
        for (int check = 0; check < 4; check++) {
            Due.is("odd(" + check + ")", x.odd(check), due[check]);
        }
        Due.is("how many", x.is(10), 2);
        int[] others = {-1, 4, 24, 32, MIN, MAX};
        for (int check : others) {
            Due.is("odd(" + check + ")", x.odd(check), false);
        }
    }
}
