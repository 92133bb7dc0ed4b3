/** The bounds of what is asked of a CODE and of SETS (promises 17 to 23, 33 to 52): the last that is answered, others. */
public final class AnswerBoundsTest {
    private static final int MIN = Integer.MIN_VALUE;
    private static final int MAX = Integer.MAX_VALUE;
    private static final String FULL = "lift 6; row 0 0 0 0 0 0 0 0; row 0 1 2 3 4 5 0 1; row 0 2 4 0 2 4 0 2; row 1 3 5 1 3 5 1 3;";
    private static final String ALL_EMPTY = "lift 6; row . . . . . . . .;";
    private static final String ONE = "row 0;";
    /** One CHECK with seven BITS, so 21 pairs are LEAST KNOTS. */
    private static final String SEVEN = "row 0 0 0 0 0 0 0;";
    private static final int[] NO_SIZES = {0, -1, 5, 6, MIN, MAX};
    private static final int[] NO_LEVELS = {0, -1, 32, MIN, MAX};

    private AnswerBoundsTest() {
    }

    public static void main(String[] args) {
        isAskedFor();
        shiftsAskedFor();
        layersAskedFor();
        bitsOfChecks();
        bothOfChecks();
        looseAndDegree();
        rankAndCarriers();
        ringsOrNone();
        waysAndPieces();
        setsThatThereAreNot();
        knotsOfOneToFour();
        knotByMoreThatAreNotOdd();
        leastAskedFor();
        leastOnesOnly();
        stoppersAndWords();
        trappedAskedFor();
        trapsOfTheFirstTwenty();
        weakestOrNone();
        peeledToTheLast();
        erasableSets();
        costOfHeard();
        countsByAllSets();
        countsInAnyOrder();
        countsOfOneCodeBehindAnother();
        theGreatestCode();
        Due.end();
    }

    private static void isAskedFor() {
        LiftedChecks x = Tape.coded(FULL);
        int[] due = {6, 4, 8, 1, 15, 0, 1, 0, 0, 613, 0};
        for (int what = 0; what <= 10; what++) {
            Due.is("is(" + what + ")", x.is(what), due[what]);
        }
        int[] others = {-1, -2, 11, 12, MIN, MAX};
        for (int what : others) {
            Due.is("is(" + what + ")", x.is(what), -1);
        }
    }

    private static void shiftsAskedFor() {
        LiftedChecks x = Tape.coded(FULL);
        Due.is("the first", x.shift(0, 0), 0);
        Due.is("the last", x.shift(3, 7), 3);
        int[][] others = {{-1, 0}, {0, -1}, {4, 0}, {0, 8}, {4, 8}, {3, 8}, {4, 7}, {MIN, 0}, {0, MIN}, {MAX, MAX}};
        for (int[] o : others) {
            Due.is("shift(" + o[0] + ", " + o[1] + ")", x.shift(o[0], o[1]), -2);
        }
        x = Tape.coded("lift 6; row . 5; row 0 .;");
        Due.is("EMPTY", x.shift(0, 0), -1);
        Due.is("the greatest", x.shift(0, 1), 5);
        Due.is("0 isn't EMPTY", x.shift(1, 0), 0);
        Due.is("no third column", x.shift(0, 2), -2);
        Due.is("no third row", x.shift(2, 0), -2);
    }

    private static void layersAskedFor() {
        for (int rows = 1; rows <= 4; rows++) {
            LiftedChecks x = Tape.coded("row 0;".repeat(rows));
            Due.is("the last", x.layer(rows - 1), rows - 1);
            int[] others = {-1, rows, rows + 1, MIN, MAX};
            for (int place : others) {
                Due.is("layer(" + place + ")", x.layer(place), -1);
            }
        }
    }

    private static void bitsOfChecks() {
        LiftedChecks x = Tape.coded(FULL);
        Due.is("eight", x.has(23, -1), 8);
        Due.is("the first", x.has(0, 0), 0);
        Due.is("the eighth", x.has(23, 7), 42 + (5 + 3) % 6);
        int[][] others = {{23, 8}, {23, -2}, {24, 0}, {24, -1}, {-1, 0}, {-1, -1}, {MIN, -1}, {MAX, 0}, {0, MIN}, {0, MAX}};
        for (int[] o : others) {
            Due.is("has(" + o[0] + ", " + o[1] + ")", x.has(o[0], o[1]), -1);
        }
        x = Tape.coded("lift 2; row . 1 . 0; row . . . .;");
        Due.is("how many", x.has(1, -1), 2);
        Due.is("by numbers", x.has(1, 0) * 10 + x.has(1, 1), 27);
        Due.is("no third", x.has(1, 2), -1);
        Due.is("none", x.has(2, -1), 0);
        Due.is("none", x.has(2, 0), -1);
        Due.is("no CHECK", x.has(4, -1), -1);
    }

    private static void bothOfChecks() {
        LiftedChecks x = Tape.coded(FULL);
        Due.is("one with itself", x.both(23, 23), 8);
        Due.is("of one row none", x.both(0, 5), 0);
        // SHIFTS 0 and 0 1 2 3 4 5 0 1: CHECK 0 and the 0-th of the second row meet in COLUMNS 0 and 6
        Due.is("both", x.both(0, 6), 2);
        Due.is("either way", x.both(6, 0), 2);
        int[][] others = {{-1, 0}, {0, -1}, {24, 0}, {0, 24}, {24, 24}, {MIN, 0}, {0, MAX}};
        for (int[] o : others) {
            Due.is("both(" + o[0] + ", " + o[1] + ")", x.both(o[0], o[1]), -1);
        }
        Due.is("of EMPTY rows", Tape.coded("row .;").both(0, 0), 0);
    }

    private static void looseAndDegree() {
        LiftedChecks x = Tape.coded(FULL);
        Due.is("none is loose", x.loose(), 0);
        Due.is("the greatest degree", x.degree(47), 4);
        int[] others = {-1, 48, MIN, MAX};
        for (int bit : others) {
            Due.is("degree(" + bit + ")", x.degree(bit), -1);
        }
        x = Tape.coded(ALL_EMPTY);
        Due.is("all are loose", x.loose(), (1L << 48) - 1);
        Due.is("the least degree", x.degree(47), 0);
        Due.is("no other", x.degree(48), -1);
        x = Tape.coded("lift 6; row 0 0 0 0 0 0 0 .;");
        Due.is("the last ones are", x.loose(), 63L << 42);
        Due.is("one that is", x.degree(42), 0);
        Due.is("one that isn't", x.degree(41), 1);
    }

    private static void rankAndCarriers() {
        LiftedChecks x = Tape.coded(ALL_EMPTY);
        Due.is("rank of none", x.rank(), 0);
        Due.is("the last carrier", x.carrier(47), 47);
        int[] others = {48, -1, -2, MIN, MAX};
        for (int i : others) {
            Due.is("carrier(" + i + ")", x.carrier(i), -1);
        }
        x = Tape.coded(ONE);
        Due.is("rank of all", x.rank(), 1);
        Due.is("no carrier", x.carrier(0), -1);
        Due.is("it is none", x.bit(0, 4), 0);
        x = Tape.coded("lift 6; row 0 0 0 0 0 0 0 0;");
        Due.is("rank", x.rank(), 6);
        Due.is("the first", x.carrier(0), 6);
        Due.is("the last", x.carrier(41), 47);
        Due.is("no more", x.carrier(42), -1);
        // a sum of CHECKS that has nothing tells nothing
        x = Tape.coded("lift 2; row 0 0; row 0 1;");
        Due.is("rank of a ring", x.rank(), 3);
        Due.is("the only one", x.carrier(0), 3);
        // the sum of both CHECKS has BIT 1 and no lower one
        x = Tape.coded("row 0 0 0; row 0 . 0;");
        Due.is("rank", x.rank(), 2);
        Due.is("carrier", x.carrier(0), 2);
        Due.is("no more", x.carrier(1), -1);
    }

    private static void ringsOrNone() {
        String[] none = {ONE, "row .;", ALL_EMPTY, "row 0 0 0 0 0 0 0 0;", "row 0 0 .; row . 0 0;", "lift 6; row 0; row 3;"};
        for (String text : none) {
            LiftedChecks x = Tape.coded(text);
            Due.is("girth", x.girth(), -1);
            Due.is("fours", x.fours(), 0);
            Due.is("sixes", x.sixes(), 0);
        }
        LiftedChecks x = Tape.coded("row 0 0; row 0 0;");
        Due.is("the shortest there can be", x.girth(), 4);
        Due.is("once", x.fours(), 1);
        Due.is("no six", x.sixes(), 0);
        // two rows of two columns, the SHIFTS of one by one: a ring of all
        int[] lengths = {4, 8, 12, 16, 20, 24};
        for (int lift = 1; lift <= 6; lift++) {
            x = Tape.coded("lift " + lift + "; row 0 0; row 0 " + 1 % lift + ";");
            Due.is("a ring of " + lengths[lift - 1], x.girth(), lengths[lift - 1]);
            Due.is("fours", x.fours(), lift == 1 ? 1 : 0);
        }
        // the shortest first, the shortest last
        Due.is("4, then 6", Tape.coded("row 0 0 . .; row 0 0 0 .; row . . 0 0; row . 0 . 0;").girth(), 4);
        Due.is("8, then 4", Tape.coded("row 0 0 . . .; row . 0 0 . .; row . . 0 0 0; row 0 . . 0 0;").girth(), 4);
        Due.is("8, then 6", Tape.coded("lift 2; row 0 0 . . .; row 0 1 0 0 .; row . . . 0 0; row . . 0 . 0;").girth(), 6);
        Due.is("6, then 8", Tape.coded("lift 2; row . . 0 . 0; row . . . 0 0; row 0 1 0 0 .; row 0 0 . . .;").girth(), 6);
        // longer rings, found behind the shortest by CHECKS that are on none of these
        Due.is("10, then 12", Tape.coded("lift 5; row . 0 1 . . . 2; row 3 . . 1 4 . 1; row . . 4 2 2 . .; row . 0 . 3 . 1 .;").girth(), 10);
        Due.is("12, then 14", Tape.coded("lift 6; row . . 2 3 1; row 4 3 . . 5; row 4 . 3 5 .;").girth(), 12);
        Due.is("12, then 16", Tape.coded("lift 6; row 2 . 1 .; row 3 1 . 1; row . 3 . 1; row . 4 0 .;").girth(), 12);
        x = Tape.coded("lift 2; row 0 0 .; row . 0 0; row 0 . 0;");
        Due.is("two of six", x.girth() * 10 + x.sixes(), 62);
        x = Tape.coded("lift 2; row 0 0 .; row . 0 0; row 0 . 1;");
        Due.is("one of twelve", x.girth() * 10 + x.sixes(), 120);
    }

    private static void waysAndPieces() {
        LiftedChecks x = Tape.coded("lift 6; row 0 0; row 0 1;");
        Due.is("one", x.path(11, 11), 0);
        Due.is("one CHECK", x.path(0, 6), 1);
        Due.is("the farthest of a ring of 24", x.path(0, 9), 5);
        Due.is("the farthest of one kind", x.path(0, 3), 6);
        int[][] others = {{-1, 0}, {0, -1}, {12, 0}, {0, 12}, {12, 12}, {-1, -1}, {MIN, MIN}, {MAX, 0}};
        for (int[] o : others) {
            Due.is("path(" + o[0] + ", " + o[1] + ")", x.path(o[0], o[1]), -1);
        }
        Due.is("one piece", x.pieces(), 1);
        x = new LiftedChecks();
        Due.is("by the only CHECK", x.path(0, 1), 1);
        x = Tape.coded("row 0 0 . . .; row . . . 0 0; row . 0 0 . .; row . . 0 0 .;");
        Due.is("by all CHECKS", x.path(0, 4), 4);
        Due.is("and back", x.path(4, 0), 4);
        Due.is("one piece", x.pieces(), 1);
        x = Tape.coded(ALL_EMPTY);
        Due.is("no way", x.path(0, 47), -1);
        Due.is("a loose one to itself", x.path(47, 47), 0);
        Due.is("each by itself", x.pieces(), 48);
        x = Tape.coded("lift 6; row 0 0 0 0 0 0 0 0;");
        Due.is("pieces", x.pieces(), 6);
        Due.is("in one", x.path(5, 47), 1);
        Due.is("in two", x.path(4, 47), -1);
        Due.is("the least", Tape.coded(ONE).pieces(), 1);
    }

    private static void setsThatThereAreNot() {
        String[] texts = {ONE, SEVEN, "lift 4; row 0 0 0 0 0 0 0 0;", "lift 5; row 0 0 0 0 0 0 .;", ALL_EMPTY, FULL};
        int[] bits = {1, 7, 32, 35, 48, 48};
        for (int k = 0; k < texts.length; k++) {
            LiftedChecks x = Tape.coded(texts[k]);
            long all = (1L << bits[k]) - 1;
            long[] refused = {all + 1, 2 * all + 1, all + 2, 1L << 50, 1L << 62, -1, -2, Long.MIN_VALUE, Long.MAX_VALUE};
            for (long set : refused) {
                Due.is("odds(" + set + ")", x.odds(set), -1);
                Due.is("knot(" + set + ")", x.knot(set), false);
                Due.is("peeled(" + set + ")", x.peeled(set), -1);
                Due.is("known(" + set + ")", x.known(set), -1);
                Due.is("cost(" + set + ")", x.cost(set), -1);
            }
            Due.is("all BITS", x.odds(all) >= 0, true);
            Due.is("all BITS", x.peeled(all) >= 0, true);
            Due.is("all BITS", x.known(all) >= 0, true);
            Due.is("all BITS", x.cost(all), 0);
            Due.is("no BITS", x.odds(0), 0);
            Due.is("no BITS", x.knot(0), false);
            Due.is("no BITS", x.peeled(0), 0);
            Due.is("no BITS", x.known(0), 0);
            Due.is("no BITS", x.cost(0), 0);
        }
        LiftedChecks x = Tape.coded(FULL);
        Due.is("the last BIT", x.odds(1L << 47), 4);
        Due.is("the last of 32", x.odds(1L << 31), 4);
    }

    private static void knotsOfOneToFour() {
        LiftedChecks x = Tape.coded("row 0 0 0 0 0 0; row 0 0 0 0 0 0;");
        // of one CHECK's BITS an even number is not ODD
        long[] sets = {1, 3, 7, 15, 31, 63};
        boolean[] due = {false, true, false, true, false, false};
        for (int k = 0; k < 6; k++) {
            Due.is("knot of " + (k + 1), x.knot(sets[k]), due[k]);
        }
        for (int many : NO_SIZES) {
            Due.is("knots(" + many + ")", x.knots(many), -1);
            Due.is("least(" + many + ", 0)", x.least(many, 0), 0);
        }
        int[] least = {0, 15, 0, 0};
        for (int many = 1; many <= 4; many++) {
            Due.is("knots(" + many + ")", x.knots(many), least[many - 1]);
        }
        x = Tape.coded(ONE);
        for (int many = 1; many <= 4; many++) {
            Due.is("of one BIT", x.knots(many), 0);
        }
        x = Tape.coded("row 0 0;");
        Due.is("of two BITS", x.knots(2), 1);
        Due.is("more than there are", x.knots(3), 0);
        Due.is("more than there are", x.knots(4), 0);
    }

    private static void knotByMoreThatAreNotOdd() {
        // BITS 0 and 1 share 1, 2, 3 of 4, 3 of 4 CHECKS
        Due.is("one of one", Tape.coded("row 0 0;").knot(3), true);
        Due.is("one of two", Tape.coded("row 0 0; row 0 .; row . 0;").knot(3), false);
        Due.is("two of two, of three", Tape.coded("row 0 0; row 0 0; row 0 .;").knot(3), true);
        Due.is("one of three", Tape.coded("row 0 0; row 0 .; row 0 .;").knot(3), false);
        Due.is("two of four", Tape.coded("row 0 0; row 0 0; row 0 .; row 0 .;").knot(3), false);
        Due.is("three of four", Tape.coded("row 0 0; row 0 0; row 0 0; row 0 .;").knot(3), true);
        Due.is("the other one decides", Tape.coded("row 0 0; row 0 0; row . 0; row . 0;").knot(3), false);
        Due.is("a loose BIT has none of both", Tape.coded("row 0 0 .;").knot(7), false);
        Due.is("nor by itself", Tape.coded("row 0 0 .;").knot(4), false);
    }

    private static void leastAskedFor() {
        LiftedChecks x = Tape.coded(SEVEN);
        Due.is("21 pairs", x.knots(2), 21);
        Due.is("the first", x.least(2, 0), 3);
        Due.is("by the next one", x.least(2, 5), 65);
        Due.is("by the lowest", x.least(2, 6), 6);
        Due.is("the 20th", x.least(2, 19), 80);
        Due.is("the last", x.least(2, 20), 96);
        int[] others = {21, 22, -1, MIN, MAX};
        for (int i : others) {
            Due.is("least(2, " + i + ")", x.least(2, i), 0);
        }
        Due.is("none of one", x.least(1, 0), 0);
        Due.is("none of four", x.least(4, 0), 0);
        x = Tape.coded("lift 6; row 0 0 0 0 0 0 0 0;");
        Due.is("28 pairs of each", x.knots(2), 168);
        Due.is("the last", x.least(2, 167), 1L << 47 | 1L << 41);
        Due.is("no more", x.least(2, 168), 0);
    }

    private static void leastOnesOnly() {
        // a ring of three CHECKS: all three BITS, no pair
        LiftedChecks x = Tape.coded("row 0 0 . .; row . 0 0 .; row 0 . 0 .;");
        Due.is("of three", x.knots(3), 1);
        Due.is("which", x.least(3, 0), 7);
        Due.is("no pair", x.knots(2), 0);
        Due.is("none of four", x.knots(4), 0);
        // a ring of four
        x = Tape.coded("row 0 0 . .; row . 0 0 .; row . . 0 0; row 0 . . 0;");
        Due.is("of four", x.knots(4), 1);
        Due.is("which", x.least(4, 0), 15);
        Due.is("none of three", x.knots(3), 0);
        // a KNOT that has one of fewer BITS isn't LEAST, whichever BIT that one is without
        String[] without = {"row . 0 0; row . 0 0; row 0 0 .; row 0 . 0;", "row 0 . 0; row 0 . 0; row 0 0 .; row . 0 0;",
            "row 0 0 .; row 0 0 .; row 0 . 0; row . 0 0;"};
        for (int bit = 0; bit < 3; bit++) {
            x = Tape.coded(without[bit]);
            Due.is("all three are a knot", x.knot(7), true);
            Due.is("and two of them", x.least(2, 0), 7 - (1 << bit));
            Due.is("no other pair", x.knots(2), 1);
            Due.is("so not a least one", x.knots(3), 0);
        }
        x = Tape.coded("row 0 0 . .; row . . 0 0;");
        Due.is("two pairs are a knot", x.knot(15), true);
        Due.is("not a least one", x.knots(4), 0);
        Due.is("the pairs are", x.knots(2), 2);
    }

    private static void stoppersAndWords() {
        LiftedChecks x = Tape.coded(ALL_EMPTY);
        int[] all = {48, 1128, 17296, 194580};
        for (int many = 1; many <= 4; many++) {
            Due.is("all stop", x.stoppers(many), all[many - 1]);
            Due.is("all are words", x.words(many), all[many - 1]);
            Due.is("none is erasable", x.erasable(many), 0);
        }
        for (int many : NO_SIZES) {
            Due.is("stoppers(" + many + ")", x.stoppers(many), -1);
            Due.is("words(" + many + ")", x.words(many), -1);
            Due.is("erasable(" + many + ")", x.erasable(many), -1);
        }
        x = Tape.coded("row 0 0 0 0;");
        int[] stop = {0, 6, 4, 1};
        int[] words = {0, 6, 0, 1};
        for (int many = 1; many <= 4; many++) {
            Due.is("two or more stop", x.stoppers(many), stop[many - 1]);
            Due.is("an even number is a word", x.words(many), words[many - 1]);
        }
        x = Tape.coded(ONE);
        for (int many = 1; many <= 4; many++) {
            Due.is("more than there are", x.stoppers(many), 0);
            Due.is("more than there are", x.words(many), 0);
            Due.is("one, no more", x.erasable(many), many == 1 ? 1 : 0);
        }
    }

    private static void trappedAskedFor() {
        LiftedChecks x = Tape.coded(SEVEN);
        Due.is("the first", x.trapped(2, 0, 1), 1);
        Due.is("the last, beyond twenty", x.trapped(2, 20, 31), 1);
        int[] none = {21, -1, MIN, MAX};
        for (int i : none) {
            Due.is("trapped(2, " + i + ", 1)", x.trapped(2, i, 1), -1);
        }
        for (int many : NO_SIZES) {
            Due.is("trapped(" + many + ", 0, 1)", x.trapped(many, 0, 1), -1);
            Due.is("traps(" + many + ", 1)", x.traps(many, 1), -1);
        }
        for (int level : NO_LEVELS) {
            Due.is("trapped(2, 0, " + level + ")", x.trapped(2, 0, level), -1);
            Due.is("traps(2, " + level + ")", x.traps(2, level), -1);
            Due.is("weakest(" + level + ")", x.weakest(level), 0);
        }
        Due.is("traps by 1", x.traps(2, 1), 20);
        Due.is("traps by 31", x.traps(2, 31), 20);
        Due.is("traps of none", x.traps(4, 1), 0);
        Due.is("weakest by 1", x.weakest(1), 3);
        Due.is("weakest by 31", x.weakest(31), 3);
    }

    private static void trapsOfTheFirstTwenty() {
        String[] texts = {"lift 6; row 0 0 0;", "lift 2; row 0 0 0 0 0;", SEVEN, "lift 6; row 0 0 0 0 0 0 0 0;"};
        int[] many = {18, 20, 21, 168};
        for (int k = 0; k < 4; k++) {
            LiftedChecks x = Tape.coded(texts[k]);
            Due.is("knots", x.knots(2), many[k]);
            Due.is("traps", x.traps(2, 9), Math.min(many[k], 20));
            Due.is("the last is trapped, too", x.trapped(2, many[k] - 1, 9), 1);
        }
    }

    private static void weakestOrNone() {
        String[] none = {ONE, "row .;", "row 0 0; row 0 .; row . 0;"};
        for (String text : none) {
            LiftedChecks x = Tape.coded(text);
            Due.is("no knots", x.knots(1) + x.knots(2) + x.knots(3) + x.knots(4), 0);
            Due.is("weakest", x.weakest(5), 0);
        }
        // of four BITS only
        Due.is("weakest", Tape.coded("row 0 0 . .; row . 0 0 .; row . . 0 0; row 0 . . 0;").weakest(5), 15);
    }

    private static void peeledToTheLast() {
        // a chain of four CHECKS: each makes the next BIT known, from BIT 0 on
        LiftedChecks x = Tape.coded("row . . 0 0; row . 0 0 .; row 0 0 . .; row 0 . . .;");
        Due.is("all are made known", x.peeled(15), 0);
        Due.is("how many", x.known(15), 4);
        x = Tape.coded("row . . 0 0; row . 0 0 .; row 0 0 . .;");
        Due.is("none is", x.peeled(15), 15);
        Due.is("how many", x.known(15), 0);
        Due.is("all but one", x.known(14), 3);
        x = Tape.coded("lift 6; row 0 0 0 0 0 0 0 0;");
        Due.is("one of each CHECK", x.peeled(63L << 42), 0);
        Due.is("one of each CHECK", x.known(63L << 42), 6);
        Due.is("two of one", x.peeled(63L << 42 | 1), 1L << 42 | 1);
        Due.is("two of one", x.known(63L << 42 | 1), 5);
        Due.is("all are left", x.peeled((1L << 48) - 1), (1L << 48) - 1);
        x = Tape.coded(ALL_EMPTY);
        Due.is("loose ones are left", x.peeled(1L << 47), 1L << 47);
        Due.is("loose ones are left", x.known(1L << 47), 0);
    }

    private static void erasableSets() {
        LiftedChecks x = Tape.coded("row . . 0 0; row . 0 0 .; row 0 0 . .; row 0 . . .;");
        int[] all = {4, 6, 4, 1};
        for (int many = 1; many <= 4; many++) {
            Due.is("all sets", x.erasable(many), all[many - 1]);
        }
        x = Tape.coded("row . . 0 0; row . 0 0 .; row 0 0 . .;");
        int[] some = {4, 6, 4, 0};
        for (int many = 1; many <= 4; many++) {
            Due.is("all but that of four", x.erasable(many), some[many - 1]);
        }
        x = Tape.coded("lift 6; row 0 0 0 0 0 0 0 0;");
        int[] each = {48, 15 * 64, 20 * 512, 15 * 4096};
        for (int many = 1; many <= 4; many++) {
            Due.is("of a CHECK one at most", x.erasable(many), each[many - 1]);
        }
    }

    private static void costOfHeard() {
        LiftedChecks x = Tape.coded("row 0 0 0;");
        x.hear(0, 1);
        x.hear(1, -1);
        int[] due = {1, 2, 0, 1, 1, 2, 0, 1};
        for (int set = 0; set < 8; set++) {
            Due.is("cost(" + set + ")", x.cost(set), due[set]);
        }
        x = Tape.coded(FULL);
        for (int n = 0; n < 48; n++) {
            x.hear(n, n % 2 == 0 ? 31 : -31);
        }
        long even = 0x555555555555L;
        Due.is("the least", x.cost(even << 1), 0);
        Due.is("the greatest", x.cost(even), 48 * 31);
        Due.is("none", x.cost(0), 24 * 31);
        Due.is("all", x.cost((1L << 48) - 1), 24 * 31);
    }

    /** Each count once more, by has alone and by going through all SETS. */
    private static void countsByAllSets() {
        String[] texts = {"lift 3; row 0 1 . 2; row 1 . 0 2; row . 2 1 0;", "lift 2; row 0 0 1 . 1; row 1 0 . . 0; row 0 1 1 0 .;",
            "row 0 0 0 . . . . .; row . . 0 0 0 . . .; row 0 . . . 0 0 . .; row . 0 . 0 . 0 . 0;",
            "lift 3; row 0 0 0 .; row 1 2 0 .; row 0 1 2 0; row 2 2 1 1;", "lift 2; row 0 0 0 0 0 0; row 0 1 0 1 0 1;"};
        for (String text : texts) {
            LiftedChecks x = Tape.coded(text);
            long[] checks = new long[x.is(0) * x.is(1)];
            for (int check = 0; check < checks.length; check++) {
                for (int i = x.has(check, -1) - 1; i >= 0; i--) {
                    checks[check] |= 1L << x.has(check, i);
                }
            }
            countsOf(x, checks, x.is(0) * x.is(2));
        }
    }

    private static void countsOf(LiftedChecks x, long[] checks, int bits) {
        int[][] counts = new int[5][4];
        for (int set = 1; set < 1 << bits; set++) {
            int many = Integer.bitCount(set);
            if (many <= 4) {
                counts[many][0] += isKnot(checks, set) && isLeast(checks, set) ? 1 : 0;
                counts[many][1] += stops(checks, set) ? 1 : 0;
                counts[many][2] += isWord(checks, set) ? 1 : 0;
                counts[many][3] += left(checks, set) == 0 ? 1 : 0;
            }
        }
        for (int many = 1; many <= 4; many++) {
            Due.is("knots(" + many + ")", x.knots(many), counts[many][0]);
            Due.is("stoppers(" + many + ")", x.stoppers(many), counts[many][1]);
            Due.is("words(" + many + ")", x.words(many), counts[many][2]);
            Due.is("erasable(" + many + ")", x.erasable(many), counts[many][3]);
        }
    }

    private static boolean isKnot(long[] checks, long set) {
        for (long rest = set; rest != 0; rest &= rest - 1) {
            long bit = rest & -rest;
            int more = 0;
            for (long check : checks) {
                if ((check & bit) != 0) {
                    more += Long.bitCount(check & set) % 2 == 0 ? 1 : -1;
                }
            }
            if (more <= 0) {
                return false;
            }
        }
        return true;
    }

    private static boolean isLeast(long[] checks, long set) {
        for (long part = set - 1 & set; part != 0; part = part - 1 & set) {
            if (isKnot(checks, part)) {
                return false;
            }
        }
        return true;
    }

    private static boolean stops(long[] checks, long set) {
        for (long check : checks) {
            if (Long.bitCount(check & set) == 1) {
                return false;
            }
        }
        return true;
    }

    private static boolean isWord(long[] checks, long set) {
        for (long check : checks) {
            if (Long.bitCount(check & set) % 2 != 0) {
                return false;
            }
        }
        return true;
    }

    private static long left(long[] checks, long set) {
        for (long check : checks) {
            if (Long.bitCount(check & set) == 1) {
                return left(checks, set & ~check);
            }
        }
        return set;
    }

    private static void countsInAnyOrder() {
        String text = "lift 2; row 0 . 0 0 0; row . 0 0 1 1;";
        LiftedChecks first = Tape.coded(text);
        for (int many = 1; many <= 4; many++) {
            LiftedChecks x = Tape.coded(text);
            x.least(many, 0);
            for (int size = 1; size <= 4; size++) {
                Due.is("knots(" + size + ") behind least", x.knots(size), first.knots(size));
                Due.is("words(" + size + ") behind least", x.words(size), first.words(size));
                Due.is("stoppers(" + size + ") behind least", x.stoppers(size), first.stoppers(size));
                Due.is("erasable(" + size + ") behind least", x.erasable(size), first.erasable(size));
            }
        }
        Due.is("unlike numbers", first.knots(2) * 10000 + first.knots(3) * 100 + first.knots(4), 20612);
    }

    private static void countsOfOneCodeBehindAnother() {
        LiftedChecks x = Tape.coded(SEVEN);
        Due.is("21", x.least(2, 20), 96);
        Tape.put(x, "row . 0 0;");
        x.load(x.text());
        Due.is("1", x.least(2, 0), 6);
        Due.is("no more", x.least(2, 1), 0);
        Due.is("how many", x.knots(2), 1);
        x.undo();
        Due.is("21 again", x.least(2, 20), 96);
        Due.is("no more", x.least(2, 21), 0);
        Due.is("how many", x.knots(2), 21);
        x = Tape.coded("lift 3; row 0 0; row 0 0;");
        Due.is("pairs that both CHECKS have", x.words(2), 3);
        x.raise(0, 1);
        Due.is("raised, they do so yet", x.words(2), 3);
        x.slide(1, 1);
        Due.is("slid, too", x.words(2) * 100 + x.knots(2), 303);
        Tape.put(x, "lift 3; row 0 0; row 0 1;");
        x.load(x.text());
        Due.is("a ring", x.words(2), 0);
        Due.is("of all", x.knots(2) + x.knots(3) + x.knots(4), 0);
    }

    /** 24 CHECKS of 8 BITS each, 48 BITS of 4 CHECKS each: the last ones of every row are looked at. */
    private static void theGreatestCode() {
        for (int mode = 0; mode <= 1; mode++) {
            LiftedChecks x = Tape.coded(FULL);
            x.send(7, 10);
            Due.is("begun", x.begin(mode), 0);
            Due.is("no BIT has turned", x.restless(), -1);
            Due.is("step", x.step(1), 1);
            for (int bit = 0; bit < 48; bit++) {
                int sum = x.bit(bit, 0);
                int had = 0;
                for (int row = 0; row < 4; row++) {
                    int check = row * 6 + Math.floorMod(bit % 6 - x.shift(row, bit / 6), 6);
                    sum += x.message(check, bit);
                    had += x.message(check, bit) == -100 ? 0 : 1;
                }
                Due.is("HEARD and all MESSAGES", x.bit(bit, 1), sum);
                Due.is("had by", had, 4);
            }
        }
        LiftedChecks x = Tape.coded(FULL);
        int all = 0;
        for (int bit = 0; bit < 48; bit++) {
            all += x.message(23, bit) == -100 ? 0 : 1;
        }
        Due.is("the last CHECK has eight", all, 8);
        Due.is("not the first BIT of the next CHECK", x.message(0, 1), -100);
        Due.is("girth", x.girth(), 4);
        Due.is("path", x.path(0, 47) > 0 && x.path(0, 47) < 3, true);
        Due.is("pieces", x.pieces(), 1);
        Due.is("peeled", x.peeled(1L << 47 | 1), 0);
        Due.is("known", x.known(1L << 47 | 1), 2);
        Due.is("erasable", x.erasable(1), 48);
        Due.is("fours are counted by pairs", x.fours(), foursOf(x));
    }

    private static int foursOf(LiftedChecks x) {
        int count = 0;
        for (int a = 0; a < 24; a++) {
            for (int b = 0; b < a; b++) {
                int both = x.both(a, b);
                count += both * (both - 1) / 2;
            }
        }
        return count;
    }
}
