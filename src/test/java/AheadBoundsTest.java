/** The bounds of what goes by all WORDS, of ORDERS, of what is foretold, tried, kept (promises 53 to 69). */
public final class AheadBoundsTest {
    private static final int MIN = Integer.MIN_VALUE;
    private static final int MAX = Integer.MAX_VALUE;
    private static final int[] NO_STEPS = {0, -1, 81, 82, MIN, MAX};
    private static final String ALL_EMPTY = "lift 6; row . . . . . . . .;";
    private static final String FULL = "lift 6; row 0 0 0 0 0 0 0 0; row 0 1 2 3 4 5 0 1; row 0 2 4 0 2 4 0 2; row 1 3 5 1 3 5 1 3;";
    /** BIT 4 alone keeps a CHECK odd, so there are 80 STEPS by layers, 20 at once. */
    private static final String NEVER = "row 0 0 . . .; row . . 0 0 .; row 0 . . 0 .; row . . . . 0;";

    private AheadBoundsTest() {
    }

    public static void main(String[] args) {
        wordsOfTwelveCarriers();
        wordsOfNoCarriers();
        wordsOfOneCodeBehindAnother();
        spectrumAskedFor();
        likeliestOfLikeOnes();
        nearestOfLikeOnes();
        pipeAskedFor();
        pipeByLatency();
        pipeOfEmptyRows();
        quietestAndCalmest();
        clashesRoundTheEnd();
        foretoldUpTo80();
        foretoldOfNone();
        believedAskedFor();
        tillTheEnd();
        fewerOfBoth();
        trialsAskedFor();
        trialsUpToTwenty();
        trialsOfEachKind();
        meanOfAll();
        imageOfANewOne();
        imageAndBack();
        imageOfTwentySteps();
        aboutAskedFor();
        Due.end();
    }

    private static LiftedChecks heard(String text, int... values) {
        LiftedChecks x = Tape.coded(text);
        for (int bit = 0; bit < values.length; bit++) {
            x.hear(bit, values[bit]);
        }
        return x;
    }

    private static void wordsOfTwelveCarriers() {
        String[] texts = {"lift 2; row . . . . . 0;", "lift 2; row . . . . . .;", "lift 3; row . . . . 0;",
            "lift 2; row 0 0 0 0 0 0 0;", "lift 2; row 0 0 . . . . . .; row 0 1 . . . . . .;", ALL_EMPTY,
            "lift 4; row 0 0 0 0;", "lift 6; row 0 0 0;"};
        int[] carriers = {10, 12, 12, 12, 13, 48, 12, 12};
        for (int k = 0; k < texts.length; k++) {
            LiftedChecks x = Tape.coded(texts[k]);
            boolean few = carriers[k] <= 12;
            Due.is("carriers", x.is(0) * x.is(2) - x.rank(), carriers[k]);
            Due.is("likeliest of " + carriers[k], x.likeliest(), few ? 0 : -1);
            Due.is("nearest of " + carriers[k], x.nearest(), few ? 0 : -1);
            Due.is("spectrum of " + carriers[k], x.spectrum(0), few ? 1 : -1);
            Due.is("lightest of " + carriers[k], x.lightest() > 0, few);
            if (few) {
                int all = 0;
                for (int n = 0; n <= x.is(0) * x.is(2); n++) {
                    all += x.spectrum(n);
                }
                Due.is("all words", all, 1 << carriers[k]);
                tellsTheLastWord(x, carriers[k]);
            } else {
                Due.is("lightest", x.lightest(), -1);
            }
        }
    }

    /** The WORD of all CARRIERS is the last one that is gone through. */
    private static void tellsTheLastWord(LiftedChecks x, int carriers) {
        x.encode((1L << carriers) - 1);
        x.send(7, 0);
        x.begin(0);
        Due.is("likeliest, the last", x.likeliest(), x.sent());
        Due.is("nearest, the last", x.nearest(), x.sent());
    }

    private static void wordsOfNoCarriers() {
        LiftedChecks x = heard("row 0 .; row . 0;", -9, -9);
        x.begin(0);
        Due.is("no carriers", x.carrier(0), -1);
        Due.is("likeliest", x.likeliest(), 0);
        Due.is("nearest", x.nearest(), 0);
        Due.is("lightest: none but that without BITS", x.lightest(), -1);
        Due.is("spectrum(0)", x.spectrum(0), 1);
        Due.is("spectrum(1)", x.spectrum(1), 0);
        x = Tape.coded("row 0 .;");
        Due.is("one carrier", x.lightest(), 1);
        Due.is("spectrum(1)", x.spectrum(1), 1);
        // the fewest BITS are all there are
        Due.is("all BITS", Tape.coded("row 0 0 .; row . 0 0;").lightest(), 3);
    }

    private static void wordsOfOneCodeBehindAnother() {
        LiftedChecks x = new LiftedChecks();
        String[] texts = {"row 0 0;", "row 0 0 0;", "row . . . .;", "row 0;"};
        int[][] due = {{1, 0, 1, 0, 0}, {1, 0, 3, 0, 0}, {1, 4, 6, 4, 1}, {1, 0, 0, 0, 0}};
        for (String text : texts) {
            Tape.put(x, text);
            x.text();
        }
        int[] behind = {0, 1, 0, 2, 3, 1, 2, 0, 3, 2};
        for (int text : behind) {
            x.load(text);
            for (int n = 0; n < 5; n++) {
                Due.is("spectrum(" + n + ") of text " + text, x.spectrum(n), due[text][n]);
            }
        }
    }

    private static void spectrumAskedFor() {
        LiftedChecks x = Tape.coded("lift 2; row . . . . . .;");
        int[] due = {1, 12, 66, 220, 495, 792, 924, 792, 495, 220, 66, 12, 1, 0, 0};
        for (int n = 0; n < due.length; n++) {
            Due.is("spectrum(" + n + ")", x.spectrum(n), due[n]);
        }
        Due.is("spectrum(48)", x.spectrum(48), 0);
        Due.is("spectrum(MAX)", x.spectrum(MAX), 0);
        Due.is("spectrum(-1)", x.spectrum(-1), -1);
        Due.is("spectrum(MIN)", x.spectrum(MIN), -1);
        x = Tape.coded(ALL_EMPTY);
        Due.is("too many carriers", x.spectrum(0), -1);
        Due.is("too many carriers", x.spectrum(-1), -1);
    }

    private static void likeliestOfLikeOnes() {
        // WORDS 0, 5 (told by 1 of BIT 2), 10, 15
        LiftedChecks x = heard("lift 2; row 0 0;", 3, 3, -3, -3);
        Due.is("all are alike", x.cost(0) * 100 + x.cost(15), 606);
        Due.is("the lowest number", x.likeliest(), 0);
        x.hear(2, -4);
        Due.is("one less", x.likeliest(), 5);
        x.hear(3, -5);
        Due.is("both", x.likeliest(), 15);
        x.hear(2, -3);
        Due.is("of 10 and 15 that of the lower number", x.likeliest(), 10);
        x.hear(2, -2);
        Due.is("the other alone", x.likeliest(), 10);
        x = heard("row . .;", 0, 0);
        Due.is("HEARD 0 costs nothing", x.likeliest(), 0);
        x = heard("row 0 0;", -9, 5);
        Due.is("BIT 0 alone would cost least, but is no word", x.likeliest(), 3);
    }

    private static void nearestOfLikeOnes() {
        LiftedChecks x = heard("lift 2; row 0 0;", -1, 1, 1, 1);
        Due.is("ahead of BEGUN", x.nearest(), 0);
        x.begin(0);
        Due.is("of 0 and 5 that of the lower number", x.nearest(), 0);
        x.hear(2, -1);
        x.hear(1, -1);
        x.begin(0);
        Due.is("of 5 and 15 that of the lower number", x.nearest(), 5);
        x.hear(3, -1);
        x.begin(0);
        Due.is("all", x.nearest(), 15);
    }

    private static void pipeAskedFor() {
        LiftedChecks x = Tape.coded(FULL);
        int[][] others = {{-1, 1, 0}, {24, 1, 0}, {MIN, 1, 0}, {MAX, 1, 0}, {0, 0, 0}, {0, 10, 0}, {0, -1, 1}, {0, MIN, 0},
            {0, MAX, 0}, {0, 1, -1}, {0, 1, 2}, {0, 1, MIN}, {0, 1, MAX}};
        for (int[] o : others) {
            Due.is("pipe(" + o[0] + ", " + o[1] + ", " + o[2] + ")", x.pipe(o[0], o[1], o[2]), -1);
        }
        Due.is("the first order, the least latency", x.pipe(0, 1, 0) * 100 + x.pipe(0, 1, 1), 3200);
        Due.is("the last order", x.pipe(23, 1, 0), 32);
        // eight COLUMNS each: READY again behind eight SLOTS, one too early for nine
        Due.is("latency 8", x.pipe(23, 8, 0) * 100 + x.pipe(23, 8, 1), 3200);
        Due.is("latency 9", x.pipe(23, 9, 0) * 100 + x.pipe(23, 9, 1), 3604);
        int[] clash = {-1, 24, MIN, MAX};
        for (int number : clash) {
            Due.is("clashes(" + number + ")", x.clashes(number), -1);
        }
        Due.is("clashes of the last", x.clashes(23), 32);
        int[] latencies = {0, -1, 10, MIN, MAX};
        for (int latency : latencies) {
            Due.is("quietest(" + latency + ")", x.quietest(latency), -1);
        }
        Due.is("quietest(1)", x.quietest(1), 0);
        Due.is("quietest(9)", x.quietest(9), 0);
        x = new LiftedChecks();
        Due.is("one row, one order", x.pipe(1, 1, 0), -1);
        Due.is("one row, one order", x.clashes(1), -1);
        Due.is("one row, one order", x.clashes(0), 0);
    }

    private static void pipeByLatency() {
        // one COLUMN: it has a SLOT, then stalls till it is READY
        LiftedChecks x = Tape.coded("row 0;");
        for (int latency = 1; latency <= 9; latency++) {
            Due.is("slots by " + latency, x.pipe(0, latency, 0), latency);
            Due.is("stalls by " + latency, x.pipe(0, latency, 1), latency - 1);
        }
        for (int columns = 1; columns <= 8; columns++) {
            x = Tape.coded("row" + " 0".repeat(columns) + ";");
            for (int latency = 1; latency <= 9; latency++) {
                Due.is("slots", x.pipe(0, latency, 0), Math.max(columns, latency));
                Due.is("stalls", x.pipe(0, latency, 1), Math.max(latency - columns, 0));
            }
        }
    }

    private static void pipeOfEmptyRows() {
        LiftedChecks x = Tape.coded("row . .; row . .;");
        Due.is("no slots", x.pipe(1, 9, 0), 0);
        Due.is("no stalls", x.pipe(1, 9, 1), 0);
        Due.is("no clashes", x.clashes(1), 0);
        Due.is("quietest", x.quietest(9), 0);
        Due.is("calmest", x.calmest(), 0);
        x = Tape.coded("row . .; row 0 .; row . .;");
        Due.is("the only one", x.pipe(5, 4, 0) * 10 + x.pipe(5, 4, 1), 43);
    }

    private static void quietestAndCalmest() {
        for (int rows = 1; rows <= 4; rows++) {
            LiftedChecks x = Tape.coded("row 0 0;".repeat(rows));
            Due.is("all are alike", x.quietest(5), 0);
            Due.is("all are alike", x.calmest(), 0);
        }
        // rows 0 and 1, 2 and 3 are alike: apart they wait less and clash less, first by 0 2 1 3
        LiftedChecks x = Tape.coded("row 0 0 . .; row 0 0 . .; row . . 0 0; row . . 0 0;");
        Due.is("clashes side by side", x.clashes(0), 4);
        Due.is("clashes side by side, the last", x.clashes(23), 4);
        Due.is("clashes apart", x.clashes(2), 0);
        Due.is("calmest", x.calmest(), 2);
        Due.is("quietest", x.quietest(4), 2);
        Due.is("quietest by 2: none waits", x.quietest(2), 0);
        Due.is("quietest by 3", x.quietest(3), 2);
        x.order(7);
        Due.is("THE ORDER as it is doesn't matter", x.calmest(), 2);
    }

    private static void clashesRoundTheEnd() {
        // of two rows both ways, of three each pair once
        Due.is("one row", Tape.coded("row 0 0 0;").clashes(0), 0);
        Due.is("two rows", Tape.coded("row 0 0 0; row 0 . 0;").clashes(0), 4);
        LiftedChecks x = Tape.coded("row 0 0 .; row 0 . 0; row 0 0 0;");
        for (int number = 0; number < 6; number++) {
            Due.is("three rows", x.clashes(number), 1 + 2 + 2);
        }
        x = Tape.coded("row 0 . .; row . 0 .; row . . 0; row 0 . .;");
        Due.is("behind the last one the first", x.clashes(0), 1);
        Due.is("apart", x.clashes(1), 0);
    }

    private static void foretoldUpTo80() {
        LiftedChecks x = heard(NEVER, 3, 3, 3, 3, -1);
        x.begin(0);
        for (int n : NO_STEPS) {
            Due.is("foretold(" + n + ")", x.foretold(n), -1);
            Due.is("believed(" + n + ", 0)", x.believed(n, 0), -100);
        }
        Due.is("foretold(1)", x.foretold(1), 0);
        Due.is("foretold(79)", x.foretold(79), 0);
        Due.is("foretold(80)", x.foretold(80), 2);
        x.begin(1);
        Due.is("foretold(19) at once", x.foretold(19), 0);
        Due.is("foretold(20) at once", x.foretold(20), 2);
        Due.is("or as many as there are", x.foretold(21), 2);
        Due.is("or as many as there are", x.foretold(80), 2);
        Due.is("nothing is gone", x.is(7), 0);
        Due.is("no line", x.book(-1, 0), 0);
        x.step(1);
        Due.is("foretold(18) behind one", x.foretold(18), 0);
        Due.is("foretold(19) behind one", x.foretold(19), 2);
    }

    private static void foretoldOfNone() {
        LiftedChecks x = new LiftedChecks();
        Due.is("state 1", x.foretold(1), 1);
        Due.is("state 1", x.foretold(80), 1);
        Due.is("others", x.foretold(0), -1);
        x = heard("row 0;", -3);
        x.begin(0);
        x.step(20);
        Due.is("state 2", x.foretold(1), 2);
        Due.is("belief", x.believed(80, 0), -3);
        Due.is("others", x.foretold(81), -1);
        Due.is("till", x.till(), 0);
    }

    private static void believedAskedFor() {
        LiftedChecks x = heard("offset 0; row 0 0 .; row . . 0;", -9, 4, -1);
        x.begin(0);
        Due.is("believed(1, 0)", x.believed(1, 0), -9 + 4);
        Due.is("believed(1, 1)", x.believed(1, 1), 4 - 9);
        Due.is("believed(80, 2)", x.believed(80, 2), -1);
        Due.is("belief now", x.bit(1, 1), 4);
        int[] others = {-1, 3, 48, MIN, MAX};
        for (int bit : others) {
            Due.is("believed(1, " + bit + ")", x.believed(1, bit), -100);
            Due.is("believed(0, " + bit + ")", x.believed(0, bit), -100);
        }
        for (int n = 1; n <= 40; n++) {
            int told = x.believed(n, 0);
            LiftedChecks y = heard("offset 0; row 0 0 .; row . . 0;", -9, 4, -1);
            y.begin(0);
            y.step(n);
            Due.is("as it comes, behind " + n, told, y.bit(0, 1));
        }
    }

    private static void tillTheEnd() {
        LiftedChecks x = new LiftedChecks();
        Due.is("state 1", x.till(), 0);
        x = heard(NEVER, 3, 3, 3, 3, -1);
        x.begin(0);
        Due.is("80", x.till(), 80);
        x.step(79);
        Due.is("one is left", x.till(), 1);
        x.step(1);
        Due.is("state 2", x.till(), 0);
        x.begin(1);
        Due.is("20", x.till(), 20);
        x = heard("row 0 0;", -9, 4);
        x.begin(0);
        Due.is("1", x.till(), 1);
        Due.is("it is only told", x.is(6), 0);
    }

    private static void fewerOfBoth() {
        LiftedChecks x = new LiftedChecks();
        Due.is("none is needed: 0", x.fewer(), 0);
        x.begin(1);
        Due.is("of like ones 0, whatever MODE is", x.fewer(), 0);
        Due.is("MODE stays", x.is(5), 1);
        x = heard(NEVER, 3, 3, 3, 3, -1);
        Due.is("by none", x.fewer(), -1);
        Due.is("STATE stays", x.is(6), 1);
        x.hear(4, 1);
        Due.is("BEGUN now, by HEARD as it is", x.fewer(), 0);
        // a WORD in the 20th SWEEP still counts, and is more than none
        x = heard("offset 0; row 0 0 0 . 0; row 0 . 0 0 0; row . . 0 0 0; row 0 0 0 0 .;", 18, 10, -25, -11, 0);
        Due.is("in the last sweep", x.fewer() >= 0, true);
        x = heard("lift 2; most 24; row 1 0; row 0 0; row . .; row 1 1;", 3, -6, 24, -22);
        Due.is("in the last sweep", x.fewer() >= 0, true);
    }

    private static void trialsAskedFor() {
        LiftedChecks x = new LiftedChecks();
        int[][] others = {{0, 50, 1, 0}, {32, 50, 1, 0}, {MIN, 50, 1, 0}, {MAX, 50, 1, 0}, {5, -1, 1, 0}, {5, 101, 1, 0},
            {5, MIN, 1, 0}, {5, 50, 0, 0}, {5, 50, 21, 0}, {5, 50, -1, 0}, {5, 50, MIN, 0}, {5, 50, MAX, 0}, {5, 50, 1, -1},
            {5, 50, 1, 4}, {5, 50, 1, MIN}, {5, 50, 1, MAX}};
        for (int[] o : others) {
            Due.is("trials(" + o[0] + ", " + o[1] + ", " + o[2] + ", " + o[3] + ")", x.trials(o[0], o[1], o[2], o[3]), -1);
        }
        int[] levels = {1, 31};
        for (int level : levels) {
            Due.is("spoilt by none", x.trials(level, 0, 1, 0), 1);
            Due.is("all spoilt", x.trials(level, 100, 1, 1), 1);
        }
        Due.is("X stays", x.is(9), 613);
        Due.is("no step", x.about(1), 0);
    }

    private static void trialsUpToTwenty() {
        LiftedChecks x = new LiftedChecks();
        for (int n = 1; n <= 20; n++) {
            Due.is("right", x.trials(5, 0, n, 0), n);
            Due.is("wrong", x.trials(5, 100, n, 1), n);
            int all = x.trials(5, 50, n, 0) + x.trials(5, 50, n, 1) + x.trials(5, 50, n, 2);
            Due.is("each is one of three", all, n);
        }
        // a lone BIT that is spoilt is LOST behind 20 SWEEPS
        x = Tape.coded("row 0;");
        Due.is("lost", x.trials(5, 100, 20, 2), 20);
        Due.is("sweeps of all together", x.trials(5, 100, 20, 3), 400);
        Due.is("sweeps of one", x.trials(5, 100, 1, 3), 20);
        Due.is("none is wrong", x.trials(5, 100, 20, 1), 0);
        x.begin(1);
        Due.is("by MODE as it is", x.trials(5, 100, 20, 3), 400);
    }

    private static void trialsOfEachKind() {
        // X behind 35 is 29942: 42 by mod 100
        LiftedChecks x = Tape.coded("row 0;");
        x.tell(35);
        Due.is("not below", x.trials(5, 42, 1, 0), 1);
        Due.is("below", x.trials(5, 43, 1, 2), 1);
        // SENT is what is right, not the WORD without BITS
        x = Tape.coded("row 0 0;");
        x.encode(1);
        Due.is("sent", x.trials(5, 0, 3, 0), 3);
        Due.is("another word", x.trials(5, 100, 3, 1), 3);
        Due.is("the guess stays", x.guess(), 0);
        // the second trial goes on where the first one ended
        x = Tape.coded("row 0;");
        x.tell(11827);
        Due.is("0 is below 1", x.trials(5, 1, 1, 2), 1);
        Due.is("577 isn't", x.trials(5, 1, 2, 0), 1);
        Due.is("77 is below 78", x.trials(5, 78, 2, 2), 2);
        Due.is("77 isn't below 77", x.trials(5, 77, 2, 0), 1);
    }

    private static void meanOfAll() {
        LiftedChecks x = new LiftedChecks();
        Due.is("0", x.mean(), 0);
        x.hear(0, -31);
        Due.is("HEARD leaves BELIEFS", x.mean(), 0);
        x.begin(0);
        Due.is("without its sign", x.mean(), Double.doubleToLongBits(15.5));
        x.hear(1, 31);
        x.begin(0);
        Due.is("31", x.mean(), Double.doubleToLongBits(31.0));
        x = heard("lift 6; row . . . . . . . .;", 1);
        x.begin(0);
        Due.is("1 of 48", x.mean(), Double.doubleToLongBits(1.0 / 48));
        x = heard("offset 0; most 31; row 0 0;" + "row 0 0;".repeat(3), 31, 31);
        x.begin(1);
        Due.is("no step in STATE 1", x.step(1), -1);
        Due.is("the greatest that is heard", x.mean(), Double.doubleToLongBits(31.0));
        x = heard("lift 3; row 0 0 0 . .; row . . . 0 .;", 31, 31, 31, 31, 31, 31, 31, 31, 31, -1);
        x.begin(0);
        x.step(80);
        int sum = 0;
        for (int bit = 0; bit < 15; bit++) {
            sum += Math.abs(x.bit(bit, 1));
        }
        Due.is("of 15", x.mean(), Double.doubleToLongBits((double) sum / 15));
    }

    private static void imageOfANewOne() {
        LiftedChecks x = new LiftedChecks();
        Whole first = Whole.of(x);
        Tape.put(x, "row 0 0 0;");
        x.load(x.text());
        x.tell(7);
        x.send(3, 3);
        Due.is("back", x.back(), 2);
        Due.is("texts", x.about(0), 0);
        Due.is("no text", x.load(0), -1);
        Due.is("steps", x.about(1), 0);
        Due.is("nothing to take back", x.undo(), -1);
        Due.is("the fault stays", x.fault(0), 0);
        Due.is("X", x.is(9), 613);
        LiftedChecks y = new LiftedChecks();
        Tape.put(y, "row 0 0 0");
        y.feed(0, 0, 0, 0, 0);
        y.hear(0, 5);
        y.begin(1);
        y.back();
        Due.is("the tape stays", y.about(2), 29);
        y.end(0);
        Whole.of(y).isLike("all but the tape", first);
    }

    private static void imageAndBack() {
        LiftedChecks x = heard("lift 2; offset 0; row 0 1 .; row 1 . 0;", 5, -3, 2, 5, -4, 5);
        x.order(1);
        x.encode(1);
        x.step(1);
        Due.is("image", x.image(), 6);
        Whole kept = Whole.of(x);
        Due.is("a second one right behind it", x.image(), 6);
        for (int round = 0; round < 3; round++) {
            x.step(80);
            x.slide(0, 1);
            x.send(9, 50);
            x.tell(round);
            Due.is("it is another", Whole.of(x).isSame(kept), false);
            Due.is("back", x.back(), 6);
            Whole.of(x).isLike("round " + round, kept);
        }
        Due.is("back when all is so", x.back(), 6);
        x.load(0);
        x.raise(1, 1);
        Due.is("a new image takes its place", x.image(), 6);
        x.undo();
        x.back();
        Due.is("raised", x.shift(0, 1), 0);
        Due.is("not the first image", x.sent(), 0);
    }

    private static void imageOfTwentySteps() {
        LiftedChecks x = new LiftedChecks();
        for (int n = 1; n <= 23; n++) {
            x.hear(0, n);
        }
        x.image();
        for (int n = 1; n <= 30; n++) {
            x.hear(1, n);
        }
        x.back();
        Due.is("twenty", x.about(1), 20);
        for (int n = 19; n >= 0; n--) {
            Due.is("undo", x.undo(), n);
            Due.is("heard", x.bit(0, 0), n + 3);
            Due.is("heard", x.bit(1, 0), 0);
        }
        Due.is("no more", x.undo(), -1);
        x.back();
        x.hear(1, 4);
        Due.is("one more than twenty behind back", x.about(1), 20);
        for (int n = 19; n >= 0; n--) {
            x.undo();
        }
        Due.is("the eldest was dropped", x.bit(0, 0), 4);
        x.back();
        Due.is("but not of the image", x.about(1) + 100 * x.bit(0, 0), 2320);
    }

    private static void aboutAskedFor() {
        LiftedChecks x = new LiftedChecks();
        int[] due = {0, 0, 0, 1};
        for (int what = 0; what < 4; what++) {
            Due.is("about(" + what + ")", x.about(what), due[what]);
        }
        int[] others = {-1, -2, 4, 5, MIN, MAX};
        for (int what : others) {
            Due.is("about(" + what + ")", x.about(what), -2);
        }
        int[] orders = {1, 2, 6, 24};
        for (int rows = 1; rows <= 4; rows++) {
            Due.is("orders", Tape.coded("row 0;".repeat(rows)).about(3), orders[rows - 1]);
        }
    }
}
