import java.lang.reflect.Method;
import java.util.ArrayList;
import java.util.Arrays;
import java.util.Comparator;
import java.util.List;
import java.util.Map;
import java.util.Random;
import java.util.Set;

/** Runs of drawn calls, on LiftedChecks and on PlainModel: every answer must be the same. Seeds are fixed. */
public final class RandomRunsTest {
    private static final int CALLS = 500;
    private static final Set<String> DEAR = Set.of("knots", "least", "stoppers", "words", "trapped", "traps", "weakest",
        "erasable", "likeliest", "lightest", "spectrum", "nearest", "sixes", "trials", "quietest", "pieces");

    private final Random random;
    private final int size;
    private final LiftedChecks real = new LiftedChecks();
    private final PlainModel model = new PlainModel();
    private final List<String> run = new ArrayList<>();
    private final List<Method> methods = new ArrayList<>();
    private int faults;

    private RandomRunsTest(long seed, int size) {
        random = new Random(seed);
        this.size = size;
        for (Method method : LiftedChecks.class.getDeclaredMethods()) {
            if (java.lang.reflect.Modifier.isPublic(method.getModifiers())) {
                methods.add(method);
            }
        }
        methods.sort(Comparator.comparing(Method::getName));
    }

    public static void main(String[] args) throws Exception {
        int runs = args.length > 0 ? Integer.parseInt(args[0]) : 120;
        int first = args.length > 1 ? Integer.parseInt(args[1]) : 0;
        int wrong = 0;
        for (int seed = first; seed < first + runs && wrong < 5; seed++) {
            RandomRunsTest one = new RandomRunsTest(seed, seed % 8 == 7 ? 3 : seed % 2 == 0 ? 1 : 2);
            one.play();
            wrong += one.faults;
        }
        System.out.println(wrong == 0 ? runs + " runs are alike" : wrong + " runs are not alike");
        if (wrong != 0) {
            System.exit(1);
        }
    }

    private void play() throws Exception {
        while (run.size() < CALLS && faults == 0) {
            switch (random.nextInt(40)) {
                case 0: case 1: putText(); break;
                case 2: case 3: case 4: case 5: mend(); break;
                default: drawn(); break;
            }
        }
    }

    private boolean ask(String name, Object... args) throws Exception {
        Method asked = null;
        for (Method method : methods) {
            if (method.getName().equals(name)) {
                asked = method;
            }
        }
        Object got = asked.invoke(real, args);
        Object due = PlainModel.class.getMethod(name, asked.getParameterTypes()).invoke(model, args);
        run.add(name + Arrays.toString(args) + " = " + got);
        if (!got.equals(due)) {
            faults++;
            System.out.println("wrong, due is " + due + ", behind these calls:");
            run.subList(Math.max(0, run.size() - 40), run.size()).forEach(System.out::println);
        }
        return got.equals(due);
    }

    private void putText() throws Exception {
        String text = random.nextInt(3) == 0 ? anyText() : codeText();
        ask("end", 0);
        for (int[] n : Tape.numbers(text)) {
            ask("feed", n[0], n[1], n[2], n[3], n[4]);
        }
        ask("end", text.length());
        if (random.nextInt(10) > 0) {
            ask("text");
            ask("fault", 0);
            ask("fault", 1);
        }
        ask("load", Math.max(0, real.about(0) - 1));
    }

    private String codeText() {
        int lift = 1 + random.nextInt(size == 1 ? 3 : size == 2 ? 4 : 6);
        int columns = 1 + random.nextInt(size == 1 ? 4 : size == 2 ? 5 : 8);
        int rows = 1 + random.nextInt(4);
        int empty = random.nextInt(60);
        StringBuilder text = new StringBuilder();
        if (lift > 1 || random.nextBoolean()) {
            text.append("lift ").append(lift).append(";");
        }
        if (random.nextBoolean()) {
            text.append("offset ").append(random.nextInt(4)).append(" ;");
        }
        for (int row = 0; row < rows; row++) {
            text.append("row");
            for (int column = 0; column < columns; column++) {
                text.append(' ').append(random.nextInt(100) < empty ? "." : random.nextInt(lift));
            }
            text.append(";");
        }
        if (random.nextBoolean()) {
            text.append("\nmost ").append(1 + random.nextInt(31)).append(";");
        }
        return text.toString();
    }

    /** A text that is spoilt, or put together from pieces. */
    private String anyText() {
        StringBuilder text = new StringBuilder();
        if (random.nextBoolean()) {
            text.append(codeText());
            for (int i = random.nextInt(3); i >= 0; i--) {
                text.setCharAt(random.nextInt(text.length()), ";. 0179rowliftA\t\n\u00e9".charAt(random.nextInt(18)));
            }
            return text.toString();
        }
        String[] pieces = {"lift ", "row ", "offset ", "most ", "0 ", "1 ", "2 ", "9 ", "10 ", ". ", ";", "\n", "x", "row 0;",
            "row 0 0;", "row 0 0 0 0 0 0 0 0", "lift 2;", "32;", "99999999999", "007", "offset 0;", "most 31;"};
        for (int i = random.nextInt(9); i > 0; i--) {
            text.append(pieces[random.nextInt(pieces.length)]);
        }
        return text.toString();
    }

    /** Calls that make BELIEFS to be mended. */
    private void mend() throws Exception {
        if (random.nextInt(3) == 0) {
            ask("encode", (long) random.nextInt(1 << random.nextInt(10)));
        }
        if (random.nextBoolean()) {
            ask("send", 1 + random.nextInt(31), random.nextInt(60));
        } else {
            for (int i = random.nextInt(6); i > 0; i--) {
                ask("hear", random.nextInt(12), random.nextInt(63) - 31);
            }
        }
        if (random.nextInt(4) > 0) {
            ask("begin", random.nextInt(2));
        }
        for (int i = random.nextInt(4); i > 0; i--) {
            ask("step", 1 + random.nextInt(random.nextBoolean() ? 3 : 80));
        }
        for (int i = random.nextInt(5); i > 0; i--) {
            int bit = random.nextInt(real.is(0) * real.is(2));
            int check = random.nextInt(real.is(0) * real.is(1));
            ask("bit", bit, 1);
            ask("message", check, bit);
            ask("turned", bit);
            ask("odd", check);
            ask("book", random.nextInt(17), random.nextInt(3));
        }
        ask("mean");
        ask("guess");
        ask("is", 6 + random.nextInt(5));
    }

    private void drawn() throws Exception {
        Method method = methods.get(random.nextInt(methods.size()));
        String name = method.getName();
        if (DEAR.contains(name) && random.nextInt(size * size) > 0 || name.equals("feed") || name.equals("end")
            || (name.equals("back") || name.equals("text") || name.equals("load")) && random.nextInt(4) > 0) {
            return;
        }
        Class<?>[] types = method.getParameterTypes();
        int[] bounds = BOUNDS.containsKey(name) ? BOUNDS.get(name) : new int[types.length];
        Object[] args = new Object[types.length];
        for (int i = 0; i < types.length; i++) {
            if (types[i] == long.class) {
                args[i] = name.equals("encode") ? (Object) drawnCarriers() : (Object) drawnSet();
            } else {
                args[i] = random.nextInt(12) == 0 ? edge(bounds[i]) : within(bounds[i]);
            }
        }
        ask(name, args);
    }

    private static final int BIT = -1;
    private static final int CHECK = -2;
    private static final int ROW = -3;
    private static final int COLUMN = -4;
    private static final int ORDER = -5;
    private static final int SIGNED = -6;

    /** Of each argument what it is, or one more than its greatest. */
    private static final Map<String, int[]> BOUNDS = Map.ofEntries(
        Map.entry("fault", new int[] {3}), Map.entry("load", new int[] {4}), Map.entry("raise", new int[] {COLUMN, 6}),
        Map.entry("slide", new int[] {ROW, 6}), Map.entry("hear", new int[] {BIT, SIGNED}),
        Map.entry("send", new int[] {32, 101}), Map.entry("begin", new int[] {2}), Map.entry("order", new int[] {ORDER}),
        Map.entry("step", new int[] {81}), Map.entry("tell", new int[] {30071}), Map.entry("is", new int[] {12}),
        Map.entry("shift", new int[] {ROW, COLUMN}), Map.entry("layer", new int[] {ROW}),
        Map.entry("has", new int[] {CHECK, 9}), Map.entry("both", new int[] {CHECK, CHECK}),
        Map.entry("degree", new int[] {BIT}), Map.entry("bit", new int[] {BIT, 5}),
        Map.entry("message", new int[] {CHECK, BIT}), Map.entry("odd", new int[] {CHECK}),
        Map.entry("book", new int[] {17, 3}), Map.entry("turned", new int[] {BIT}), Map.entry("carrier", new int[] {BIT}),
        Map.entry("path", new int[] {BIT, BIT}), Map.entry("knots", new int[] {5}), Map.entry("least", new int[] {5, 30}),
        Map.entry("stoppers", new int[] {5}), Map.entry("words", new int[] {5}),
        Map.entry("trapped", new int[] {5, 10, 32}), Map.entry("traps", new int[] {5, 32}),
        Map.entry("weakest", new int[] {32}), Map.entry("erasable", new int[] {5}), Map.entry("spectrum", new int[] {12}),
        Map.entry("pipe", new int[] {ORDER, 10, 2}), Map.entry("quietest", new int[] {10}),
        Map.entry("clashes", new int[] {ORDER}), Map.entry("foretold", new int[] {81}),
        Map.entry("believed", new int[] {81, BIT}), Map.entry("trials", new int[] {32, 60, 21, 4}),
        Map.entry("about", new int[] {4}));

    private int top(int bound) {
        switch (bound) {
            case BIT: return real.is(0) * real.is(2);
            case CHECK: return real.is(0) * real.is(1);
            case ROW: return real.is(1);
            case COLUMN: return real.is(2);
            case ORDER: return real.about(3);
            case SIGNED: return 32;
            default: return bound;
        }
    }

    private Integer within(int bound) {
        int top = top(bound);
        if (bound == SIGNED) {
            return random.nextInt(63) - 31;
        }
        return random.nextInt(top > 30 && random.nextBoolean() ? 6 : Math.max(top, 1));
    }

    private Integer edge(int bound) {
        int top = top(bound);
        int[] edges = {-1, 0, 1, top - 1, top, top + 1, -top, Integer.MIN_VALUE, Integer.MAX_VALUE, random.nextInt()};
        return edges[random.nextInt(edges.length)];
    }

    private long drawnCarriers() {
        int many = real.is(0) * real.is(2) - real.rank();
        return random.nextInt(6) == 0 ? drawnSet() : random.nextLong() & (1L << many) - 1;
    }

    private long drawnSet() {
        long all = (1L << real.is(0) * real.is(2)) - 1;
        switch (random.nextInt(8)) {
            case 0: return random.nextInt(3) == 0 ? random.nextLong() : -1L - random.nextInt(2);
            case 1: return all + 1;
            case 2: return all & random.nextLong();
            case 3: return random.nextInt(8);
            case 4: return real.guess();
            case 5: return real.least(2 + random.nextInt(3), random.nextInt(4));
            default: return all & random.nextLong() & random.nextLong() & random.nextLong();
        }
    }
}
