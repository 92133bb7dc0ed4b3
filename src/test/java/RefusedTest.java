import java.util.ArrayList;
import java.util.List;

/** A refused call changes nothing, nor does one that only asks: an object with such a call shows just what its twin shows. */
public final class RefusedTest {
    private static final int MIN = Integer.MIN_VALUE;
    private static final int MAX = Integer.MAX_VALUE;
    private static final int SITUATIONS = 7;
    private static final String PAIRS = "lift 2; row 0 1 .; row 1 . 0; offset 0; most 7;";

    private interface Call {
        long on(LiftedChecks x);
    }

    private final List<String> names = new ArrayList<>();
    private final List<Call> calls = new ArrayList<>();
    private final List<Long> due = new ArrayList<>();

    private RefusedTest() {
    }

    public static void main(String[] args) {
        RefusedTest refused = new RefusedTest();
        refused.changes();
        refused.refusedAsks();
        refused.refusedSets();
        refused.refusedAhead();
        for (int situation = 0; situation < SITUATIONS; situation++) {
            refused.changeNothing(situation);
        }
        RefusedTest full = new RefusedTest();
        full.whenFull();
        full.changeNothing(3);
        RefusedTest over = new RefusedTest();
        over.whenOver();
        over.changeNothing(0);
        over.changeNothing(3);
        over.changeNothing(5);
        RefusedTest asks = new RefusedTest();
        asks.asks();
        asks.asksOfSets();
        asks.asksAhead();
        for (int situation = 0; situation < SITUATIONS; situation++) {
            asks.changeNothing(situation);
        }
        Due.end();
    }

    private void refuse(String name, long answer, Call call) {
        names.add(name);
        calls.add(call);
        due.add(answer);
    }

    private void ask(String name, Call call) {
        names.add(name);
        calls.add(call);
        due.add(null);
    }

    private void changeNothing(int situation) {
        Whole twin = Whole.spent(made(situation));
        for (int i = 0; i < calls.size(); i++) {
            LiftedChecks x = made(situation);
            String when = names.get(i) + " in situation " + situation;
            long first = calls.get(i).on(x);
            if (due.get(i) != null) {
                Due.is(when, first, due.get(i));
            }
            Due.is(when + ", asked again", calls.get(i).on(x), first);
            Whole.spent(x).isLike("behind " + when, twin);
        }
    }

    private static LiftedChecks made(int situation) {
        LiftedChecks x = new LiftedChecks();
        switch (situation) {
            case 0: break;
            case 1: midst(x); break;
            case 2: midst(x); x.begin(1); x.step(2); x.tell(30070); break;
            case 3: full(x); break;
            case 4: thirteen(x); break;
            case 5: over(x); break;
            default: least(x); break;
        }
        return x;
    }

    /** In the midst of STEPS by layers, with an image of another CODE, a FAULT and something on the tape. */
    private static void midst(LiftedChecks x) {
        Tape.put(x, "row 0 0 0; row 0 . 0;");
        x.load(x.text());
        x.hear(0, -4);
        x.begin(1);
        x.step(1);
        x.image();
        Tape.put(x, PAIRS);
        x.load(x.text());
        Tape.put(x, "row 0; x");
        x.text();
        x.encode(2);
        x.send(9, 40);
        x.hear(1, -3);
        x.order(1);
        x.step(1);
        Tape.put(x, "row 0 0 0 0 0; most 3;");
    }

    /** Four TEXTS, a full tape, twenty STEPS that can be taken back, the SWEEPS over. */
    private static void full(LiftedChecks x) {
        for (int n = 0; n < 4; n++) {
            if (n == 2) {
                x.image();
            }
            Tape.put(x, "lift 2; row 0 . ." + " 1".repeat(n) + "; row . 0 0" + " .".repeat(n) + ";");
            x.text();
        }
        x.load(1);
        for (int n = 0; n < 21; n++) {
            x.hear(n % 8, n % 2 == 0 ? -n - 1 : n);
        }
        x.begin(0);
        x.step(37);
        x.step(80);
        x.end(0);
        Tape.put(x, "row 0 0;" + " ".repeat(286) + "row x;");
    }

    /** Too many CARRIERS. */
    private static void thirteen(LiftedChecks x) {
        Tape.put(x, "lift 2; row 0 0 . . . . . .; row 0 1 . . . . . .;");
        x.load(x.text());
        x.encode(5);
        x.send(3, 20);
        x.begin(0);
        x.image();
        x.step(3);
    }

    /** A WORD is the guess, so there are no STEPS. */
    private static void over(LiftedChecks x) {
        Tape.put(x, PAIRS);
        x.load(x.text());
        int[] values = {5, -3, 2, 5, -4, 5};
        for (int bit = 0; bit < 6; bit++) {
            x.hear(bit, values[bit]);
        }
        x.begin(0);
        x.step(80);
        x.image();
        x.hear(0, 0);
    }

    /** One BIT and one CHECK. */
    private static void least(LiftedChecks x) {
        Tape.put(x, "row 0;");
        x.load(x.text());
        x.hear(0, -31);
        x.begin(0);
        x.step(18);
    }

    private static long one(boolean answer) {
        return answer ? 1 : 0;
    }

    private void changes() {
        int[] ends = {-1, 301, MIN, MAX};
        for (int n : ends) {
            refuse("end(" + n + ")", -1, x -> x.end(n));
        }
        refuse("end(one more)", -1, x -> x.end(x.about(2) + 1));
        int[] texts = {-1, 4, MIN, MAX};
        for (int text : texts) {
            refuse("load(" + text + ")", -1, x -> x.load(text));
        }
        refuse("load(one more)", -1, x -> x.load(x.about(0)));
        long[] numbers = {-1, 1L << 48, Long.MIN_VALUE, Long.MAX_VALUE};
        for (long number : numbers) {
            refuse("encode(" + number + ")", -1, x -> x.encode(number));
        }
        refuse("encode(one more)", -1, x -> x.encode(1L << x.is(0) * x.is(2) - x.rank()));
        int[][] moves = {{-1, 1}, {8, 1}, {0, 0}, {0, 6}, {0, -1}, {MIN, 1}, {MAX, 1}, {0, MIN}, {0, MAX}};
        for (int[] m : moves) {
            refuse("raise(" + m[0] + ", " + m[1] + ")", 0, x -> one(x.raise(m[0], m[1])));
            refuse("slide(" + m[0] + ", " + m[1] + ")", 0, x -> one(x.slide(m[0], m[1])));
        }
        refuse("raise(one more)", 0, x -> one(x.raise(x.is(2), 1)));
        refuse("slide(one more)", 0, x -> one(x.slide(x.is(1), 1)));
        int[][] heard = {{-1, 1}, {48, 1}, {0, 32}, {0, -32}, {MIN, 0}, {0, MIN}, {0, MAX}};
        for (int[] h : heard) {
            refuse("hear(" + h[0] + ", " + h[1] + ")", 0, x -> one(x.hear(h[0], h[1])));
        }
        refuse("hear(one more)", 0, x -> one(x.hear(x.is(0) * x.is(2), 1)));
        int[][] sends = {{0, 50}, {32, 50}, {5, -1}, {5, 101}, {MIN, 0}, {1, MAX}};
        for (int[] s : sends) {
            refuse("send(" + s[0] + ", " + s[1] + ")", -1, x -> x.send(s[0], s[1]));
        }
        int[] others = {-1, 2, 81, MIN, MAX};
        for (int n : others) {
            refuse("begin(" + n + ")", -1, x -> x.begin(n));
            refuse("step(" + (n == 2 ? 0 : n) + ")", -1, x -> x.step(n == 2 ? 0 : n));
            refuse("order(" + (n == 2 ? 24 : n) + ")", 0, x -> one(x.order(n == 2 ? 24 : n)));
            refuse("tell(" + (n == 2 || n == 81 ? 30069 + n : n) + ")", 0, x -> one(x.tell(n == 2 || n == 81 ? 30069 + n : n)));
        }
        refuse("order(one more)", 0, x -> one(x.order(x.about(3))));
    }

    private void whenFull() {
        refuse("feed", -1, x -> x.feed(-1, -1, -1, -1, -1));
        refuse("text", -1, x -> x.text());
    }

    private void whenOver() {
        int[] steps = {1, 2, 80};
        for (int n : steps) {
            refuse("step(" + n + ")", -1, x -> x.step(n));
        }
    }

    private void refusedAsks() {
        int[] others = {-3, 24, 99, MIN, MAX};
        for (int n : others) {
            refuse("fault " + n, -1, x -> x.fault(n));
            refuse("is " + n, -1, x -> x.is(n));
            refuse("about " + n, -2, x -> x.about(n));
            refuse("shift " + n, -2, x -> x.shift(n, 0));
            refuse("shift of " + n, -2, x -> x.shift(0, n));
            refuse("layer " + n, -1, x -> x.layer(n));
            refuse("has " + n, -1, x -> x.has(n, -1));
            refuse("has of " + n, -1, x -> x.has(0, n));
            refuse("both " + n, -1, x -> x.both(n, 0));
            refuse("both of " + n, -1, x -> x.both(0, n));
            refuse("degree " + n, -1, x -> x.degree(n));
            refuse("bit " + n, -100, x -> x.bit(n, 0));
            refuse("bit of " + n, -100, x -> x.bit(0, n));
            refuse("message " + n, -100, x -> x.message(n, 0));
            refuse("message to " + n, -100, x -> x.message(0, n));
            refuse("odd " + n, 0, x -> one(x.odd(n)));
            refuse("book " + n, -2, x -> x.book(n, 0));
            refuse("book of " + n, -2, x -> x.book(0, n));
            refuse("turned " + n, -1, x -> x.turned(n));
            refuse("carrier " + n, -1, x -> x.carrier(n));
            refuse("path " + n, -1, x -> x.path(n, 0));
            refuse("path to " + n, -1, x -> x.path(0, n));
        }
    }

    private void refusedSets() {
        long[] sets = {-1, 1L << 48, Long.MIN_VALUE, Long.MAX_VALUE};
        for (long set : sets) {
            refuse("odds " + set, -1, x -> x.odds(set));
            refuse("knot " + set, 0, x -> one(x.knot(set)));
            refuse("peeled " + set, -1, x -> x.peeled(set));
            refuse("known " + set, -1, x -> x.known(set));
            refuse("cost " + set, -1, x -> x.cost(set));
        }
        int[] sizes = {0, 5, -1, MIN, MAX};
        for (int many : sizes) {
            refuse("knots " + many, -1, x -> x.knots(many));
            refuse("least " + many, 0, x -> x.least(many, 0));
            refuse("stoppers " + many, -1, x -> x.stoppers(many));
            refuse("words " + many, -1, x -> x.words(many));
            refuse("trapped " + many, -1, x -> x.trapped(many, 0, 1));
            refuse("traps " + many, -1, x -> x.traps(many, 1));
            refuse("erasable " + many, -1, x -> x.erasable(many));
        }
        int[] levels = {0, 32, MIN, MAX};
        for (int level : levels) {
            refuse("trapped by " + level, -1, x -> x.trapped(2, 0, level));
            refuse("traps by " + level, -1, x -> x.traps(2, level));
            refuse("weakest by " + level, 0, x -> x.weakest(level));
        }
    }

    private void refusedAhead() {
        refuse("spectrum(-1)", -1, x -> x.spectrum(-1));
        int[] others = {-1, 81, MIN, MAX};
        for (int n : others) {
            refuse("pipe " + n, -1, x -> x.pipe(n, 1, 0));
            refuse("pipe by " + n, -1, x -> x.pipe(0, n, 0));
            refuse("pipe, what " + n, -1, x -> x.pipe(0, 1, n));
            refuse("quietest " + n, -1, x -> x.quietest(n));
            refuse("clashes " + n, -1, x -> x.clashes(n));
            refuse("foretold " + n, -1, x -> x.foretold(n));
            refuse("believed " + n, -100, x -> x.believed(n, 0));
            refuse("believed of " + n, -100, x -> x.believed(1, n));
            refuse("trials, level " + n, -1, x -> x.trials(n, 50, 5, 0));
            refuse("trials, spoil " + n, -1, x -> x.trials(5, n == 81 ? 101 : n, 5, 0));
            refuse("trials, many " + n, -1, x -> x.trials(5, 50, n, 0));
            refuse("trials, what " + n, -1, x -> x.trials(5, 50, 5, n));
        }
    }

    private void asks() {
        ask("loose", x -> x.loose());
        ask("restless", x -> x.restless());
        ask("guess", x -> x.guess());
        ask("sent", x -> x.sent());
        ask("wrong", x -> x.wrong());
        ask("rank", x -> x.rank());
        ask("girth", x -> x.girth());
        ask("fours", x -> x.fours());
        ask("sixes", x -> x.sixes());
        ask("pieces", x -> x.pieces());
        ask("mean", x -> x.mean());
        ask("fault", x -> x.fault(0) * 1000L + x.fault(1));
        for (int n = 0; n < 5; n++) {
            int i = n;
            ask("is " + i, x -> x.is(i) * 100 + x.is(i + 6));
            ask("about " + i, x -> x.about(i));
            ask("shift " + i, x -> x.shift(0, i));
            ask("layer " + i, x -> x.layer(i));
            ask("has " + i, x -> x.has(0, i - 1));
            ask("both " + i, x -> x.both(0, i));
            ask("degree " + i, x -> x.degree(i));
            ask("bit " + i, x -> x.bit(0, i));
            ask("message " + i, x -> x.message(0, i));
            ask("odd " + i, x -> one(x.odd(i)));
            ask("book " + i, x -> x.book(i - 1, 1));
            ask("turned " + i, x -> x.turned(i));
            ask("carrier " + i, x -> x.carrier(i));
            ask("path " + i, x -> x.path(0, i));
        }
    }

    private void asksOfSets() {
        for (int n = 0; n < 16; n++) {
            long set = n;
            ask("odds " + n, x -> x.odds(set));
            ask("knot " + n, x -> one(x.knot(set)));
            ask("peeled " + n, x -> x.peeled(set));
            ask("known " + n, x -> x.known(set));
            ask("cost " + n, x -> x.cost(set));
        }
        for (int n = 1; n <= 4; n++) {
            int many = n;
            ask("knots " + many, x -> x.knots(many));
            ask("least " + many, x -> x.least(many, 1));
            ask("stoppers " + many, x -> x.stoppers(many));
            ask("words " + many, x -> x.words(many));
            ask("trapped " + many, x -> x.trapped(many, 0, 9));
            ask("traps " + many, x -> x.traps(many, 31));
            ask("weakest " + many, x -> x.weakest(many));
            ask("erasable " + many, x -> x.erasable(many));
        }
    }

    private void asksAhead() {
        ask("likeliest", x -> x.likeliest());
        ask("lightest", x -> x.lightest());
        ask("nearest", x -> x.nearest());
        ask("spectrum", x -> x.spectrum(3));
        ask("calmest", x -> x.calmest());
        ask("till", x -> x.till());
        ask("fewer", x -> x.fewer());
        int[] steps = {1, 2, 79, 80};
        for (int n : steps) {
            ask("foretold " + n, x -> x.foretold(n));
            ask("believed " + n, x -> x.believed(n, 0));
        }
        for (int n = 0; n < 4; n++) {
            int i = n;
            ask("pipe " + i, x -> x.pipe(i, 1 + 2 * i, i % 2));
            ask("quietest " + i, x -> x.quietest(1 + 2 * i));
            ask("clashes " + i, x -> x.clashes(i));
            ask("trials " + i, x -> x.trials(9, 30, 1 + i * 6, i));
        }
    }
}
