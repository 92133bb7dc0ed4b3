import java.util.Arrays;

/** Parity checks passed as beliefs. ../shared/DOC.md says what each call answers. */
public final class LiftedChecks {
    public static final int NONE = -1;

    private static final int MOST_LIFT = 6;
    private static final int MOST_ROWS = 4;
    private static final int WIDE = 8;
    private static final int MOST_BITS = 48;
    private static final int MOST_CHECKS = 24;
    private static final int MOST_EDGES = 192;
    private static final int MOST_OFFSET = 9;
    private static final int MOST_MOST = 31;
    private static final int MOST_TEXTS = 4;
    private static final int MOST_BYTES = 300;
    private static final int FED_BYTES = 20;
    private static final int MOST_PAST = 20;
    private static final int MOST_SWEEPS = 20;
    private static final int MOST_STEPS = 80;
    private static final int BOOK_LINES = 16;
    private static final int LINE = 3;
    private static final int HEARD_BOUND = 31;
    private static final int BELIEF_BOUND = 99;
    private static final int FAR = 1000;
    private static final int MOST_X = 30070;
    private static final int MOST_SET = 4;
    private static final int MOST_SETS = 1000000;
    private static final int FIRST_KNOTS = 20;
    private static final int MOST_TRIALS = 20;
    private static final int WORD_CARRIERS = 12;
    private static final int MOST_LATENCY = 9;
    private static final int MOST_SLOTS = 1000;
    private static final int NO_VALUE = -100;
    private static final int NO_THING = -2;

    private static final int WORDS = 0;
    private static final int STOPPERS = 1;
    private static final int ERASABLES = 2;
    private static final int KNOTS = 3;

    private final Held held;
    private final Held kept;
    private final Reader reader;
    private final Scene play;
    private final Census census;
    private final AllWords all;
    private final Flow flow;

    public LiftedChecks() {
        Code first = new Code(1, 1, 2, 1, 15, new int[MOST_ROWS * WIDE]);
        held = new Held(first);
        kept = new Held(first);
        reader = new Reader();
        play = new Scene(first);
        census = new Census(first);
        all = new AllWords();
        flow = new Flow();
    }

    // ---- texts ----

    public int feed(int a, int b, int c, int d, int e) {
        if (reader.length + FED_BYTES > MOST_BYTES) {
            return NONE;
        }
        reader.take(a);
        reader.take(b);
        reader.take(c);
        reader.take(d);
        reader.take(e);
        return reader.length;
    }

    public int end(int n) {
        if (n < 0 || n > reader.length) {
            return NONE;
        }
        reader.length = n;
        return n;
    }

    public int text() {
        if (held.count >= MOST_TEXTS) {
            return NONE;
        }
        Code code = reader.read();
        reader.length = 0;
        if (code == null) {
            return NONE;
        }
        held.texts[held.count] = code;
        held.count++;
        return held.count - 1;
    }

    public int fault(int what) {
        switch (what) {
            case 0: return reader.fault;
            case 1: return reader.place;
            default: return NONE;
        }
    }

    // ---- what is a STEP that can be taken back ----

    public int load(int text) {
        if (text < 0 || text >= held.count || text >= MOST_TEXTS) {
            return NONE;
        }
        Code code = held.texts[text];
        if (code == null) {
            return NONE;
        }
        keep();
        held.now.come(code);
        return code.bits;
    }

    public int encode(long carriers) {
        Code code = held.now.code;
        if (carriers < 0 || carriers >> code.bits - code.rank != 0) {
            return NONE;
        }
        keep();
        held.now.sent = code.wordOf(carriers);
        return Long.bitCount(held.now.sent);
    }

    public boolean raise(int column, int by) {
        Code code = held.now.code;
        if (column < 0 || column >= code.columns || by < 1 || by > 5) {
            return false;
        }
        keep();
        held.now.come(code.moved(NONE, column, by));
        return true;
    }

    public boolean slide(int row, int by) {
        Code code = held.now.code;
        if (row < 0 || row >= code.rows || by < 1 || by > 5) {
            return false;
        }
        keep();
        held.now.come(code.moved(row, NONE, by));
        return true;
    }

    public boolean hear(int bit, int value) {
        if (!isBit(bit) || value < -HEARD_BOUND || value > HEARD_BOUND) {
            return false;
        }
        keep();
        held.now.heard[bit] = value;
        return true;
    }

    public int send(int level, int spoil) {
        if (!isLevel(level) || !isSpoil(spoil)) {
            return NONE;
        }
        keep();
        return held.now.draw(level, spoil);
    }

    public int begin(int mode) {
        if (mode != 0 && mode != 1) {
            return NONE;
        }
        keep();
        held.now.start(mode);
        return held.now.state;
    }

    public boolean order(int number) {
        if (!isOrder(number)) {
            return false;
        }
        keep();
        fillOrder(held.now.code.rows, number, held.now.order);
        held.now.start(held.now.mode);
        return true;
    }

    public int step(int n) {
        if (!isSteps(n) || held.now.state != 0) {
            return NONE;
        }
        keep();
        return held.now.go(n);
    }

    public int undo() {
        return held.past.takeBack(held.now) ? held.past.count : NONE;
    }

    public boolean tell(int x) {
        if (x < 0 || x > MOST_X) {
            return false;
        }
        held.now.x = x;
        return true;
    }

    // ---- what is ----

    public int is(int what) {
        Scene now = held.now;
        switch (what) {
            case 0: return now.code.lift;
            case 1: return now.code.rows;
            case 2: return now.code.columns;
            case 3: return now.code.offset;
            case 4: return now.code.most;
            case 5: return now.mode;
            case 6: return now.state;
            case 7: return now.sweeps;
            case 8: return now.at;
            case 9: return now.x;
            case 10: return now.oddChecks;
            default: return NONE;
        }
    }

    public int shift(int row, int column) {
        Code code = held.now.code;
        if (row < 0 || row >= code.rows || column < 0 || column >= code.columns) {
            return NO_THING;
        }
        return code.shifts[row * WIDE + column];
    }

    public int layer(int place) {
        return place < 0 || place >= held.now.code.rows ? NONE : held.now.order[place];
    }

    public int has(int check, int i) {
        if (!isCheck(check)) {
            return NONE;
        }
        long set = held.now.code.bitsOf[check];
        return i == NONE ? Long.bitCount(set) : memberOf(set, i);
    }

    public int both(int check, int other) {
        if (!isCheck(check) || !isCheck(other)) {
            return NONE;
        }
        Code code = held.now.code;
        return Long.bitCount(code.bitsOf[check] & code.bitsOf[other]);
    }

    public long loose() {
        Code code = held.now.code;
        long set = 0;
        for (int bit = 0; bit < code.bits; bit++) {
            if (code.checksOf[bit] == 0) {
                set |= 1L << bit;
            }
        }
        return set;
    }

    public int degree(int bit) {
        return isBit(bit) ? Integer.bitCount(held.now.code.checksOf[bit]) : NONE;
    }

    public int bit(int bit, int what) {
        if (!isBit(bit)) {
            return NO_VALUE;
        }
        Scene now = held.now;
        switch (what) {
            case 0: return now.heard[bit];
            case 1: return now.belief[bit];
            case 2: return (int) (now.guess >> bit & 1);
            case 3: return (int) (now.sent >> bit & 1);
            case 4: return (int) (now.code.carriers >> bit & 1);
            default: return NO_VALUE;
        }
    }

    public int message(int check, int bit) {
        if (!isCheck(check) || !isBit(bit)) {
            return NO_VALUE;
        }
        Code code = held.now.code;
        for (int column = 0; column < code.columns; column++) {
            if (code.edges[check * WIDE + column] == bit) {
                return held.now.message[check * WIDE + column];
            }
        }
        return NO_VALUE;
    }

    public boolean odd(int check) {
        return isCheck(check) && isOdd(held.now.code.bitsOf[check] & held.now.guess);
    }

    public int book(int i, int what) {
        int lines = Math.min(held.now.lines, BOOK_LINES);
        if (i == NONE) {
            return lines;
        }
        if (i < 0 || i >= lines || what < 0 || what >= LINE) {
            return NO_THING;
        }
        return held.now.book[(held.now.lines - lines + i) % BOOK_LINES * LINE + what];
    }

    public int turned(int bit) {
        return isBit(bit) ? held.now.turned[bit] : NONE;
    }

    public int restless() {
        int most = 0;
        int found = NONE;
        for (int bit = 0; bit < held.now.code.bits; bit++) {
            if (held.now.turned[bit] > most) {
                most = held.now.turned[bit];
                found = bit;
            }
        }
        return found;
    }

    public long guess() {
        return held.now.guess;
    }

    public long sent() {
        return held.now.sent;
    }

    public int wrong() {
        return Long.bitCount(held.now.guess ^ held.now.sent);
    }

    public int rank() {
        return held.now.code.rank;
    }

    public int carrier(int i) {
        return memberOf(held.now.code.carriers, i);
    }

    // ---- the graph ----

    public int girth() {
        return Graph.shortestRing(held.now.code);
    }

    public int fours() {
        return Graph.countFours(held.now.code);
    }

    public int sixes() {
        return Graph.countSixes(held.now.code);
    }

    public int path(int bit, int other) {
        if (!isBit(bit) || !isBit(other)) {
            return NONE;
        }
        return Graph.way(held.now.code, bit, 1L << other, NONE);
    }

    public int pieces() {
        return Graph.countPieces(held.now.code);
    }

    // ---- sets ----

    public int odds(long set) {
        return isSet(set) ? held.now.code.countOdd(set) : NONE;
    }

    public boolean knot(long set) {
        int many = Long.bitCount(set);
        if (!isSet(set) || many < 1 || many > MOST_SET) {
            return false;
        }
        Code code = held.now.code;
        int oddMask = code.oddMask(set);
        for (int bit = 0; bit < code.bits; bit++) {
            if ((set >> bit & 1) != 0 && !code.isHeldBy(bit, oddMask)) {
                return false;
            }
        }
        return true;
    }

    public int knots(int many) {
        return isMany(many) ? census.tally(held.now.code, KNOTS, many) : NONE;
    }

    public long least(int many, int i) {
        return isMany(many) ? census.leastKnot(held.now.code, many, i) : 0;
    }

    public int stoppers(int many) {
        return isMany(many) ? census.tally(held.now.code, STOPPERS, many) : NONE;
    }

    public int words(int many) {
        return isMany(many) ? census.tally(held.now.code, WORDS, many) : NONE;
    }

    public int trapped(int many, int i, int level) {
        if (!isMany(many) || !isLevel(level)) {
            return NONE;
        }
        long set = census.leastKnot(held.now.code, many, i);
        return set == 0 ? NONE : trap(set, level);
    }

    public int traps(int many, int level) {
        if (!isMany(many) || !isLevel(level)) {
            return NONE;
        }
        int trapping = 0;
        for (int i = 0; i < FIRST_KNOTS; i++) {
            long set = census.leastKnot(held.now.code, many, i);
            if (set != 0 && trap(set, level) != 0) {
                trapping++;
            }
        }
        return trapping;
    }

    public long weakest(int level) {
        if (!isLevel(level)) {
            return 0;
        }
        for (int many = 1; many <= MOST_SET; many++) {
            for (int i = 0; i < FIRST_KNOTS; i++) {
                long set = census.leastKnot(held.now.code, many, i);
                if (set != 0 && trap(set, level) != 0) {
                    return set;
                }
            }
        }
        return 0;
    }

    public long peeled(long set) {
        return isSet(set) ? Graph.peel(held.now.code, set) : NONE;
    }

    public int known(long set) {
        if (!isSet(set)) {
            return NONE;
        }
        return Long.bitCount(set) - Long.bitCount(Graph.peel(held.now.code, set));
    }

    public int erasable(int many) {
        return isMany(many) ? census.tally(held.now.code, ERASABLES, many) : NONE;
    }

    // ---- words ----

    public int cost(long set) {
        return isSet(set) ? held.now.costOf(set) : NONE;
    }

    public long likeliest() {
        if (!all.open(held.now.code)) {
            return NONE;
        }
        long best = 0;
        int least = held.now.costOf(0);
        for (int number = 0; number < all.many; number++) {
            int price = held.now.costOf(all.word);
            if (price < least) {
                least = price;
                best = all.word;
            }
            all.turn();
        }
        return best;
    }

    public int lightest() {
        if (!all.open(held.now.code)) {
            return NONE;
        }
        int least = NONE;
        for (int number = 0; number < all.many; number++) {
            int weight = Long.bitCount(all.word);
            if (weight > 0 && (least == NONE || weight < least)) {
                least = weight;
            }
            all.turn();
        }
        return least;
    }

    public int spectrum(int n) {
        if (n < 0 || !all.open(held.now.code)) {
            return NONE;
        }
        int count = 0;
        for (int number = 0; number < all.many; number++) {
            if (Long.bitCount(all.word) == n) {
                count++;
            }
            all.turn();
        }
        return count;
    }

    public long nearest() {
        if (!all.open(held.now.code)) {
            return NONE;
        }
        long best = 0;
        int least = Long.bitCount(held.now.guess);
        for (int number = 0; number < all.many; number++) {
            int unlike = Long.bitCount(all.word ^ held.now.guess);
            if (unlike < least) {
                least = unlike;
                best = all.word;
            }
            all.turn();
        }
        return best;
    }

    // ---- orders of layers ----

    public int pipe(int number, int latency, int what) {
        if (!isOrder(number) || !isLatency(latency) || what < 0 || what > 1) {
            return NONE;
        }
        flow.run(held.now.code, number, latency);
        return what == 0 ? flow.slots : flow.stalls;
    }

    public int quietest(int latency) {
        if (!isLatency(latency)) {
            return NONE;
        }
        Code code = held.now.code;
        int best = 0;
        int fewest = MOST_SLOTS;
        for (int number = 0; number < countOrders(code.rows); number++) {
            flow.run(code, number, latency);
            if (flow.slots < fewest) {
                fewest = flow.slots;
                best = number;
            }
        }
        return best;
    }

    public int clashes(int number) {
        return isOrder(number) ? flow.countClashes(held.now.code, number) : NONE;
    }

    public int calmest() {
        Code code = held.now.code;
        int best = 0;
        int fewest = FAR;
        for (int number = 0; number < countOrders(code.rows); number++) {
            int clashing = flow.countClashes(code, number);
            if (clashing < fewest) {
                fewest = clashing;
                best = number;
            }
        }
        return best;
    }

    // ---- what is foretold ----

    public int foretold(int n) {
        if (!isSteps(n)) {
            return NONE;
        }
        play.copyFrom(held.now);
        play.go(n);
        return play.state;
    }

    public int believed(int n, int bit) {
        if (!isSteps(n) || !isBit(bit)) {
            return NO_VALUE;
        }
        play.copyFrom(held.now);
        play.go(n);
        return play.belief[bit];
    }

    public int till() {
        play.copyFrom(held.now);
        return play.go(MOST_STEPS);
    }

    public int fewer() {
        int layered = sweepsBy(0);
        int atOnce = sweepsBy(1);
        if (layered == NONE && atOnce == NONE) {
            return NONE;
        }
        if (layered == NONE) {
            return 1;
        }
        return atOnce != NONE && atOnce < layered ? 1 : 0;
    }

    public int trials(int level, int spoil, int n, int what) {
        if (!isLevel(level) || !isSpoil(spoil) || n < 1 || n > MOST_TRIALS || what < 0 || what > 3) {
            return NONE;
        }
        int total = 0;
        play.copyFrom(held.now);
        for (int trial = 0; trial < n; trial++) {
            play.draw(level, spoil);
            play.start(play.mode);
            play.go(MOST_STEPS);
            if (what == 3) {
                total += play.sweeps;
            } else if (play.outcome() == what) {
                total++;
            }
        }
        return total;
    }

    public long mean() {
        int sum = 0;
        for (int bit = 0; bit < held.now.code.bits; bit++) {
            sum += Math.abs(held.now.belief[bit]);
        }
        return quotientBits(sum, held.now.code.bits);
    }

    // ---- the image ----

    public int image() {
        kept.copyFrom(held);
        return held.now.code.bits;
    }

    public int back() {
        held.copyFrom(kept);
        return held.now.code.bits;
    }

    public int about(int what) {
        switch (what) {
            case 0: return held.count;
            case 1: return held.past.count;
            case 2: return reader.length;
            case 3: return countOrders(held.now.code.rows);
            default: return NO_THING;
        }
    }

    // ---- helpers of the face ----

    private void keep() {
        held.past.put(held.now);
    }

    private boolean isBit(int bit) {
        return bit >= 0 && bit < held.now.code.bits;
    }

    private boolean isCheck(int check) {
        return check >= 0 && check < held.now.code.checks;
    }

    private boolean isSet(long set) {
        return set >> held.now.code.bits == 0;
    }

    private boolean isOrder(int number) {
        return number >= 0 && number < countOrders(held.now.code.rows);
    }

    private static boolean isMany(int many) {
        return many >= 1 && many <= MOST_SET;
    }

    private static boolean isLevel(int level) {
        return level >= 1 && level <= HEARD_BOUND;
    }

    private static boolean isSpoil(int spoil) {
        return spoil >= 0 && spoil <= 100;
    }

    private static boolean isSteps(int n) {
        return n >= 1 && n <= MOST_STEPS;
    }

    private static boolean isLatency(int latency) {
        return latency >= 1 && latency <= MOST_LATENCY;
    }

    private int trap(long set, int level) {
        play.copyFrom(held.now);
        for (int bit = 0; bit < play.code.bits; bit++) {
            play.heard[bit] = (set >> bit & 1) != 0 ? -level : level;
        }
        play.start(0);
        play.go(MOST_STEPS);
        if (play.guess == 0) {
            return 0;
        }
        return play.state;
    }

    private int sweepsBy(int mode) {
        play.copyFrom(held.now);
        play.start(mode);
        play.go(MOST_STEPS);
        return play.state == 1 ? play.sweeps : NONE;
    }

    private static boolean isOdd(long set) {
        return (Long.bitCount(set) & 1) != 0;
    }

    private static int lowest(long set) {
        return Long.bitCount((set & -set) - 1);
    }

    private static int memberOf(long set, int i) {
        if (i < 0 || i >= Long.bitCount(set)) {
            return NONE;
        }
        long rest = set;
        for (int n = 0; n < i; n++) {
            rest &= rest - 1;
        }
        return lowest(rest);
    }

    private static int countOrders(int rows) {
        int count = 1;
        for (int row = 2; row <= rows; row++) {
            count *= row;
        }
        return count;
    }

    private static void fillOrder(int rows, int number, int[] order) {
        int left = (1 << rows) - 1;
        int rest = number;
        for (int place = 0; place < rows; place++) {
            int block = countOrders(rows - 1 - place);
            int skipped = 0;
            for (int n = 0; n < rows && rest >= block; n++) {
                rest -= block;
                skipped++;
            }
            order[place] = Math.max(memberOf(left, skipped), 0);
            left &= ~(1 << order[place]);
        }
    }

    /** The bits of a double are put together by hand, since the language has no call that tells them. */
    private static long quotientBits(int over, int under) {
        if (over <= 0 || under <= 0) {
            return 0;
        }
        long top = over;
        int doubled = 0;
        for (int n = 0; n < 60 && top / under < 1L << 52; n++) {
            top <<= 1;
            doubled++;
        }
        long digits = top / under;
        long twice = 2 * (top % under);
        if (twice > under || twice == under && (digits & 1) != 0) {
            digits++;
        }
        // the highest of the 53 digits isn't written: added here, it makes the exponent one more
        return ((long) (1023 + 51 - doubled) << 52) + digits;
    }

    /** A CODE: what tells it, which BITS its CHECKS have, and how its WORDS are told by CARRIERS. */
    private static final class Code {
        final int lift;
        final int rows;
        final int columns;
        final int offset;
        final int most;
        final int bits;
        final int checks;
        final int[] shifts;
        final int[] edges;
        final long[] bitsOf;
        final int[] checksOf;
        final long[] sums;
        final int rank;
        final long carriers;
        final int[] tallies;

        Code(int lift, int rows, int columns, int offset, int most, int[] shifts) {
            this.lift = lift;
            this.rows = rows;
            this.columns = columns;
            this.offset = offset;
            this.most = most;
            this.shifts = shifts;
            bits = lift * columns;
            checks = lift * rows;
            edges = new int[MOST_EDGES];
            bitsOf = new long[MOST_CHECKS];
            checksOf = new int[MOST_BITS];
            Arrays.fill(edges, NONE);
            for (int row = 0; row < rows; row++) {
                for (int column = 0; column < columns; column++) {
                    lay(row, column);
                }
            }
            sums = bitsOf.clone();
            carriers = reduce(sums, checks, bits);
            rank = bits - Long.bitCount(carriers);
            tallies = new int[4 * MOST_SET];
            Arrays.fill(tallies, NONE);
        }

        private void lay(int row, int column) {
            int shift = shifts[row * WIDE + column];
            if (shift < 0) {
                return;
            }
            for (int i = 0; i < lift; i++) {
                int turn = i + shift < lift ? i + shift : i + shift - lift;
                int bit = column * lift + turn;
                int check = row * lift + i;
                edges[check * WIDE + column] = bit;
                bitsOf[check] |= 1L << bit;
                checksOf[bit] |= 1 << check;
            }
        }

        /** Leaves in the first sums one BIT each that is no CARRIER, beside CARRIERS: answers the CARRIERS. */
        private static long reduce(long[] sums, int checks, int bits) {
            long free = 0;
            int done = 0;
            for (int bit = 0; bit < bits; bit++) {
                int found = done;
                while (found < checks && (sums[found] >> bit & 1) == 0) {
                    found++;
                }
                if (found >= checks) {
                    free |= 1L << bit;
                } else {
                    long pivot = sums[found];
                    sums[found] = sums[done];
                    sums[done] = pivot;
                    for (int check = 0; check < checks; check++) {
                        if (check != done && (sums[check] >> bit & 1) != 0) {
                            sums[check] ^= pivot;
                        }
                    }
                    done++;
                }
            }
            return free;
        }

        long wordOf(long number) {
            long word = 0;
            long rest = carriers;
            int many = Long.bitCount(carriers);
            for (int i = 0; i < many; i++) {
                if ((number >> i & 1) != 0) {
                    word |= rest & -rest;
                }
                rest &= rest - 1;
            }
            long chosen = word;
            for (int i = 0; i < rank; i++) {
                if (isOdd(sums[i] & chosen)) {
                    word |= sums[i] & -sums[i];
                }
            }
            return word;
        }

        Code moved(int row, int column, int by) {
            int[] fresh = shifts.clone();
            for (int i = 0; i < rows; i++) {
                for (int j = 0; j < columns; j++) {
                    if ((i == row || j == column) && fresh[i * WIDE + j] >= 0 && lift > 0) {
                        fresh[i * WIDE + j] = (fresh[i * WIDE + j] + by) % lift;
                    }
                }
            }
            return new Code(lift, rows, columns, offset, most, fresh);
        }

        int countOdd(long set) {
            int count = 0;
            for (int check = 0; check < checks; check++) {
                count += Long.bitCount(bitsOf[check] & set) & 1;
            }
            return count;
        }

        int oddMask(long set) {
            int mask = 0;
            for (int bit = 0; bit < bits; bit++) {
                if ((set >> bit & 1) != 0) {
                    mask ^= checksOf[bit];
                }
            }
            return mask;
        }

        boolean isHeldBy(int bit, int oddMask) {
            int mask = checksOf[bit];
            return Integer.bitCount(mask & ~oddMask) > Integer.bitCount(mask & oddMask);
        }

        int columnsOf(int row) {
            int mask = 0;
            for (int column = 0; column < columns; column++) {
                if (shifts[row * WIDE + column] >= 0) {
                    mask |= 1 << column;
                }
            }
            return mask;
        }
    }

    /** The tape, and a CODE or a FAULT read from it. */
    private static final class Reader {
        private static final int END = 0;
        private static final int LETTERS = 1;
        private static final int NUMBER = 2;
        private static final int DOT = 3;
        private static final int STOP = 4;
        private static final int NO_TOKEN = 5;
        private static final int TOO_MUCH = 1000;

        final int[] tape = new int[MOST_BYTES];
        int length;
        int fault = NONE;
        int place = NONE;
        private int at;
        private int kind;
        private int begun;
        private int value;
        private int lift;
        private int rows;
        private int columns;
        private int offset;
        private int most;
        private final int[] shifts = new int[MOST_ROWS * WIDE];

        void take(int four) {
            for (int down = 24; down >= 0; down -= 8) {
                if (length < MOST_BYTES) {
                    tape[length] = four >> down & 255;
                    length++;
                }
            }
        }

        /** Null: it has a FAULT. */
        Code read() {
            at = 0;
            fault = 0;
            place = NONE;
            lift = 1;
            rows = 0;
            columns = 0;
            offset = NONE;
            most = NONE;
            readClauses();
            if (fault != 0) {
                return null;
            }
            int less = offset == NONE ? 1 : offset;
            int bound = most == NONE ? 15 : most;
            return new Code(lift, rows, columns, less, bound, shifts.clone());
        }

        private void readClauses() {
            for (int clause = 0; clause <= MOST_BYTES; clause++) {
                readToken();
                if (kind == END) {
                    refuse(rows == 0 ? 1 : 0);
                    return;
                }
                readClause(clause == 0);
                if (fault != 0) {
                    return;
                }
            }
        }

        private void readClause(boolean first) {
            if (spells("row")) {
                readRow();
            } else if (spells("lift")) {
                if (first) {
                    lift = readNumber(1, MOST_LIFT);
                } else {
                    refuse(4);
                }
            } else if (spells("offset")) {
                if (offset == NONE) {
                    offset = readNumber(0, MOST_OFFSET);
                } else {
                    refuse(4);
                }
            } else if (spells("most")) {
                if (most == NONE) {
                    most = readNumber(1, MOST_MOST);
                } else {
                    refuse(4);
                }
            } else {
                refuse(1);
            }
        }

        private int readNumber(int low, int high) {
            readToken();
            if (kind != NUMBER) {
                refuse(1);
                return low;
            }
            if (value < low || value > high) {
                refuse(2);
                return low;
            }
            int number = value;
            readToken();
            if (kind != STOP) {
                refuse(1);
            }
            return number;
        }

        private void readRow() {
            if (rows >= MOST_ROWS) {
                refuse(3);
                return;
            }
            for (int entries = 0; entries <= WIDE; entries++) {
                readToken();
                if (kind == STOP) {
                    endRow(entries);
                    return;
                }
                int wrong = entryFault(entries);
                if (wrong != 0) {
                    refuse(wrong);
                    return;
                }
                shifts[rows * WIDE + entries] = kind == DOT ? NONE : value;
            }
        }

        private int entryFault(int entries) {
            if (kind != NUMBER && kind != DOT) {
                return 1;
            }
            if (kind == NUMBER && value >= lift) {
                return 2;
            }
            return entries >= WIDE ? 3 : 0;
        }

        private void endRow(int entries) {
            if (entries == 0) {
                refuse(1);
            } else if (rows > 0 && entries != columns) {
                refuse(5);
            } else {
                columns = entries;
                rows++;
            }
        }

        private void refuse(int number) {
            if (fault == 0 && number != 0) {
                fault = number;
                place = begun;
            }
        }

        private boolean spells(String word) {
            if (kind != LETTERS || at - begun != word.length()) {
                return false;
            }
            for (int i = 0; i < word.length(); i++) {
                if (tape[begun + i] != word.charAt(i)) {
                    return false;
                }
            }
            return true;
        }

        private void readToken() {
            while (at < length && (tape[at] == 32 || tape[at] == 10)) {
                at++;
            }
            begun = at;
            if (at >= length) {
                kind = END;
                return;
            }
            int sign = tape[at];
            if (isLetter(sign)) {
                kind = LETTERS;
                while (at < length && isLetter(tape[at])) {
                    at++;
                }
            } else if (isDigit(sign)) {
                kind = NUMBER;
                value = 0;
                while (at < length && isDigit(tape[at])) {
                    value = Math.min(value * 10 + tape[at] - '0', TOO_MUCH);
                    at++;
                }
            } else {
                kind = sign == '.' ? DOT : sign == ';' ? STOP : NO_TOKEN;
                at++;
            }
        }

        private static boolean isLetter(int sign) {
            return sign >= 'a' && sign <= 'z';
        }

        private static boolean isDigit(int sign) {
            return sign >= '0' && sign <= '9';
        }
    }

    /** All that a STEP taken back brings again: a CODE, what is SENT and HEARD, and the BELIEFS. */
    private static final class Scene {
        Code code;
        long sent;
        int x = 613;
        int mode;
        int state;
        int sweeps;
        int at;
        int lines;
        long guess;
        int oddChecks;
        final int[] heard = new int[MOST_BITS];
        final int[] belief = new int[MOST_BITS];
        final int[] turned = new int[MOST_BITS];
        final int[] message = new int[MOST_EDGES];
        final int[] book = new int[BOOK_LINES * LINE];
        final int[] order = new int[MOST_ROWS];
        private final int[] rests = new int[WIDE];

        Scene(Code first) {
            code = first;
        }

        void copyFrom(Scene other) {
            code = other.code;
            sent = other.sent;
            x = other.x;
            mode = other.mode;
            state = other.state;
            sweeps = other.sweeps;
            at = other.at;
            lines = other.lines;
            guess = other.guess;
            oddChecks = other.oddChecks;
            System.arraycopy(other.heard, 0, heard, 0, MOST_BITS);
            System.arraycopy(other.belief, 0, belief, 0, MOST_BITS);
            System.arraycopy(other.turned, 0, turned, 0, MOST_BITS);
            System.arraycopy(other.message, 0, message, 0, MOST_EDGES);
            System.arraycopy(other.book, 0, book, 0, BOOK_LINES * LINE);
            System.arraycopy(other.order, 0, order, 0, MOST_ROWS);
        }

        void come(Code next) {
            code = next;
            sent = 0;
            Arrays.fill(heard, 0);
            fillOrder(next.rows, 0, order);
            start(0);
        }

        void start(int by) {
            mode = by;
            sweeps = 0;
            at = 0;
            lines = 0;
            System.arraycopy(heard, 0, belief, 0, MOST_BITS);
            Arrays.fill(message, 0);
            Arrays.fill(turned, 0);
            look();
            state = oddChecks == 0 ? 1 : 0;
        }

        int draw(int level, int spoil) {
            int changed = 0;
            for (int bit = 0; bit < code.bits; bit++) {
                x = (x * 839 + 577) % (MOST_X + 1);
                int value = (sent >> bit & 1) != 0 ? -level : level;
                if (x % 100 < spoil) {
                    value = -value;
                    changed++;
                }
                heard[bit] = value;
            }
            return changed;
        }

        int go(int most) {
            int gone = 0;
            for (int n = 0; n < most && state == 0; n++) {
                advance();
                gone++;
            }
            return gone;
        }

        private void advance() {
            int layer = NONE;
            if (mode == 0) {
                layer = order[at];
                mendLayer(layer);
                at++;
                if (at >= code.rows) {
                    at = 0;
                    sweeps++;
                }
            } else {
                mendAtOnce();
                sweeps++;
            }
            long ahead = guess;
            look();
            note(layer, guess ^ ahead);
            if (oddChecks == 0) {
                state = 1;
            } else if (sweeps >= MOST_SWEEPS) {
                state = 2;
            }
        }

        private void look() {
            guess = 0;
            for (int bit = 0; bit < code.bits; bit++) {
                if (belief[bit] < 0) {
                    guess |= 1L << bit;
                }
            }
            oddChecks = code.countOdd(guess);
        }

        private void note(int layer, long changed) {
            int many = Long.bitCount(changed);
            long rest = changed;
            for (int n = 0; n < many; n++) {
                turned[lowest(rest)]++;
                rest &= rest - 1;
            }
            int line = lines % BOOK_LINES * LINE;
            book[line] = layer;
            book[line + 1] = many;
            book[line + 2] = oddChecks;
            lines++;
        }

        private void mendLayer(int layer) {
            for (int i = 0; i < code.lift; i++) {
                int base = (layer * code.lift + i) * WIDE;
                mendMessages(base);
                for (int column = 0; column < code.columns; column++) {
                    int bit = code.edges[base + column];
                    if (bit >= 0) {
                        belief[bit] = hold(rests[column] + message[base + column]);
                    }
                }
            }
        }

        /** BELIEFS stay as ahead till all MESSAGES are new, since every CHECK goes by them. */
        private void mendAtOnce() {
            for (int check = 0; check < code.checks; check++) {
                mendMessages(check * WIDE);
            }
            System.arraycopy(heard, 0, belief, 0, MOST_BITS);
            for (int check = 0; check < code.checks; check++) {
                for (int column = 0; column < code.columns; column++) {
                    int bit = code.edges[check * WIDE + column];
                    if (bit >= 0) {
                        belief[bit] += message[check * WIDE + column];
                    }
                }
            }
            for (int bit = 0; bit < code.bits; bit++) {
                belief[bit] = hold(belief[bit]);
            }
        }

        /** The two least RESTS tell the least of the others for each BIT, so one pass finds them. */
        private void mendMessages(int base) {
            int least = FAR;
            int second = FAR;
            int leastColumn = NONE;
            int below = 0;
            for (int column = 0; column < code.columns; column++) {
                int bit = code.edges[base + column];
                if (bit < 0) {
                    continue;
                }
                int rest = belief[bit] - message[base + column];
                rests[column] = rest;
                below ^= rest >>> 31;
                int size = rest < 0 ? -rest : rest;
                if (size < least) {
                    second = least;
                    least = size;
                    leastColumn = column;
                } else if (size < second) {
                    second = size;
                }
            }
            int common = sizeOf(least);
            for (int column = 0; column < code.columns; column++) {
                if (code.edges[base + column] >= 0) {
                    int size = column == leastColumn ? sizeOf(second) : common;
                    message[base + column] = (below ^ rests[column] >>> 31) != 0 ? -size : size;
                }
            }
        }

        private int sizeOf(int rest) {
            if (rest >= FAR || rest <= code.offset) {
                return 0;
            }
            return rest - code.offset < code.most ? rest - code.offset : code.most;
        }

        private static int hold(int value) {
            if (value < -BELIEF_BOUND) {
                return -BELIEF_BOUND;
            }
            return value > BELIEF_BOUND ? BELIEF_BOUND : value;
        }

        int costOf(long set) {
            int sum = 0;
            for (int bit = 0; bit < code.bits; bit++) {
                int value = heard[bit];
                if ((set >> bit & 1) != 0 ? value > 0 : value < 0) {
                    sum += Math.abs(value);
                }
            }
            return sum;
        }

        /** 0 RIGHT, 1 WRONG, 2 LOST. */
        int outcome() {
            if (guess == sent) {
                return 0;
            }
            return state == 1 ? 1 : 2;
        }
    }

    /** The latest STEPS: each as all was ahead of it. Places are made when first needed and used again. */
    private static final class Past {
        final Scene[] scenes = new Scene[MOST_PAST];
        int first;
        int count;

        void put(Scene now) {
            if (count == MOST_PAST) {
                first = (first + 1) % MOST_PAST;
                count--;
            }
            copyTo((first + count) % MOST_PAST, now);
            count++;
        }

        private void copyTo(int slot, Scene scene) {
            if (scenes[slot] == null) {
                scenes[slot] = new Scene(scene.code);
            }
            scenes[slot].copyFrom(scene);
        }

        boolean takeBack(Scene now) {
            if (count < 1) {
                return false;
            }
            Scene latest = scenes[(first + count - 1) % MOST_PAST];
            if (latest == null) {
                return false;
            }
            now.copyFrom(latest);
            count--;
            return true;
        }

        void copyFrom(Past other) {
            first = 0;
            count = other.count;
            for (int i = 0; i < count; i++) {
                Scene scene = other.scenes[(other.first + i) % MOST_PAST];
                if (scene != null) {
                    copyTo(i, scene);
                }
            }
        }
    }

    /** All that an IMAGE has: all but the tape and the latest FAULT. */
    private static final class Held {
        final Scene now;
        final Past past = new Past();
        final Code[] texts = new Code[MOST_TEXTS];
        int count;

        Held(Code first) {
            now = new Scene(first);
            now.come(first);
        }

        void copyFrom(Held other) {
            now.copyFrom(other.now);
            past.copyFrom(other.past);
            count = other.count;
            for (int i = 0; i < MOST_TEXTS; i++) {
                texts[i] = other.texts[i];
            }
        }
    }

    /** RINGS, WAYS, PIECES, and what PEELED leaves. */
    private static final class Graph {
        /** How many CHECKS are on the shortest WAY from a BIT to one of some BITS that leaves out a CHECK. */
        static int way(Code code, int from, long goal, int without) {
            long reached = 1L << from;
            if ((reached & goal) != 0) {
                return 0;
            }
            for (int length = 1; length <= code.checks; length++) {
                long next = reached;
                for (int check = 0; check < code.checks; check++) {
                    if (check != without && (code.bitsOf[check] & reached) != 0) {
                        next |= code.bitsOf[check];
                    }
                }
                if ((next & goal) != 0) {
                    return length;
                }
                if (next == reached) {
                    return NONE;
                }
                reached = next;
            }
            return NONE;
        }

        /** A RING is a CHECK and a WAY between two of its BITS that leaves it out. */
        static int shortestRing(Code code) {
            int shortest = NONE;
            for (int check = 0; check < code.checks; check++) {
                for (int column = 0; column < code.columns; column++) {
                    int bit = code.edges[check * WIDE + column];
                    if (bit < 0) {
                        continue;
                    }
                    int length = way(code, bit, code.bitsOf[check] & ~(1L << bit), check);
                    if (length != NONE && (shortest == NONE || 2 * length + 2 < shortest)) {
                        shortest = 2 * length + 2;
                    }
                }
            }
            return shortest;
        }

        static int countFours(Code code) {
            int count = 0;
            for (int check = 0; check < code.checks; check++) {
                for (int other = check + 1; other < code.checks; other++) {
                    int common = Long.bitCount(code.bitsOf[check] & code.bitsOf[other]);
                    count += common * (common - 1) / 2;
                }
            }
            return count;
        }

        static int countSixes(Code code) {
            int count = 0;
            for (int a = 0; a < code.checks; a++) {
                for (int b = a + 1; b < code.checks; b++) {
                    for (int c = b + 1; c < code.checks; c++) {
                        count += sixesOf(code.bitsOf[a], code.bitsOf[b], code.bitsOf[c]);
                    }
                }
            }
            return count;
        }

        /** Three BITS, each of two of the CHECKS; those choices go in which two or all are the same BIT. */
        private static int sixesOf(long a, long b, long c) {
            int ab = Long.bitCount(a & b);
            int bc = Long.bitCount(b & c);
            int ac = Long.bitCount(a & c);
            int abc = Long.bitCount(a & b & c);
            return ab * bc * ac - abc * (ab + bc + ac) + 2 * abc;
        }

        static int countPieces(Code code) {
            int count = 0;
            long seen = 0;
            for (int bit = 0; bit < code.bits; bit++) {
                if ((seen >> bit & 1) == 0) {
                    seen |= pieceOf(code, bit);
                    count++;
                }
            }
            return count;
        }

        private static long pieceOf(Code code, int bit) {
            long piece = 1L << bit;
            long ahead = 0;
            for (int round = 0; round <= code.checks && piece != ahead; round++) {
                ahead = piece;
                for (int check = 0; check < code.checks; check++) {
                    if ((code.bitsOf[check] & piece) != 0) {
                        piece |= code.bitsOf[check];
                    }
                }
            }
            return piece;
        }

        static long peel(Code code, long set) {
            long left = set;
            for (int round = 0; round < code.bits; round++) {
                long one = 0;
                for (int check = 0; check < code.checks && one == 0; check++) {
                    long common = code.bitsOf[check] & left;
                    one = Long.bitCount(common) == 1 ? common : 0;
                }
                if (one == 0) {
                    return left;
                }
                left &= ~one;
            }
            return left;
        }
    }

    /** Goes through all SETS of 1 to 4 BITS of a kind. What was counted is kept with the CODE. */
    private static final class Census {
        private Code code;
        private final Code[] listed = new Code[MOST_SET + 1];
        private final long[][] lists = new long[MOST_SET + 1][16];
        private final int[] sizes = new int[MOST_SET + 1];
        private final int[] pick = new int[MOST_SET];
        private final int[] odd = new int[MOST_SET];
        private final int[] some = new int[MOST_SET];
        private int ahead;
        private int many;

        Census(Code first) {
            code = first;
        }

        int tally(Code next, int kind, int size) {
            int slot = kind * MOST_SET + size - 1;
            if (next.tallies[slot] == NONE) {
                next.tallies[slot] = count(next, kind, size);
            }
            return next.tallies[slot];
        }

        /** 0: there is none. */
        long leastKnot(Code next, int size, int i) {
            if (listed[size] != next) {
                next.tallies[KNOTS * MOST_SET + size - 1] = count(next, KNOTS, size);
            }
            return i < 0 || i >= sizes[size] ? 0 : lists[size][i];
        }

        private int count(Code next, int kind, int size) {
            code = next;
            many = size;
            ahead = size - 1;
            if (kind == KNOTS) {
                listed[size] = next;
                sizes[size] = 0;
            }
            int count = 0;
            boolean more = ahead < code.bits;
            for (int k = 0; k < ahead; k++) {
                pick[k] = k;
            }
            refresh(0);
            for (int n = 0; n < MOST_SETS && more; n++) {
                switch (kind) {
                    case WORDS: count += countWords(); break;
                    case STOPPERS: count += countStoppers(); break;
                    case ERASABLES: count += countErasables(); break;
                    default: count += countKnots(); break;
                }
                more = turn();
            }
            return count;
        }

        private boolean turn() {
            for (int k = ahead - 1; k >= 0; k--) {
                if (pick[k] < code.bits - many + k) {
                    pick[k]++;
                    for (int later = k + 1; later < ahead; later++) {
                        pick[later] = pick[later - 1] + 1;
                    }
                    refresh(k);
                    return true;
                }
            }
            return false;
        }

        private void refresh(int from) {
            for (int k = from; k < ahead; k++) {
                int mask = code.checksOf[pick[k]];
                odd[k + 1] = odd[k] ^ mask;
                some[k + 1] = some[k] | mask;
            }
        }

        private int firstLast() {
            return ahead == 0 ? 0 : pick[ahead - 1] + 1;
        }

        private int countWords() {
            int count = 0;
            for (int bit = firstLast(); bit < code.bits; bit++) {
                if (code.checksOf[bit] == odd[ahead]) {
                    count++;
                }
            }
            return count;
        }

        private int countStoppers() {
            int just = justOnce((1 << ahead) - 1);
            int count = 0;
            for (int bit = firstLast(); bit < code.bits; bit++) {
                int mask = code.checksOf[bit];
                if ((just & ~mask) == 0 && (mask & ~some[ahead]) == 0) {
                    count++;
                }
            }
            return count;
        }

        /** A BIT with a CHECK of its own is made known first, so what is left is what came ahead of it. */
        private int countErasables() {
            if (!peelsAway((1 << ahead) - 1)) {
                return 0;
            }
            int count = 0;
            for (int bit = firstLast(); bit < code.bits; bit++) {
                pick[ahead] = bit;
                if ((code.checksOf[bit] & ~some[ahead]) != 0 || peelsAway((1 << many) - 1)) {
                    count++;
                }
            }
            return count;
        }

        private boolean peelsAway(int parts) {
            int left = parts;
            for (int round = 0; round < many && left != 0; round++) {
                int just = justOnce(left);
                for (int k = 0; k < many; k++) {
                    if ((left >> k & 1) != 0 && (code.checksOf[pick[k]] & just) != 0) {
                        left &= ~(1 << k);
                    }
                }
            }
            return left == 0;
        }

        private int justOnce(int parts) {
            int once = 0;
            int again = 0;
            for (int k = 0; k < many; k++) {
                if ((parts >> k & 1) != 0) {
                    int mask = code.checksOf[pick[k]];
                    again |= once & mask;
                    once |= mask;
                }
            }
            return once & ~again;
        }

        private int countKnots() {
            int before = odd[ahead];
            int count = 0;
            for (int bit = firstLast(); bit < code.bits; bit++) {
                int mask = code.checksOf[bit];
                int wrong = mask & (before ^ mask);
                // no BIT is had by more than four CHECKS, so two that are ODD are too many
                if ((wrong & wrong - 1) == 0 && code.isHeldBy(bit, before ^ mask) && areHeldBy(before ^ mask)) {
                    pick[ahead] = bit;
                    if (!anySmallerKnot()) {
                        list();
                        count++;
                    }
                }
            }
            return count;
        }

        private boolean areHeldBy(int oddMask) {
            for (int k = 0; k < ahead; k++) {
                if (!code.isHeldBy(pick[k], oddMask)) {
                    return false;
                }
            }
            return true;
        }

        private boolean anySmallerKnot() {
            int whole = (1 << many) - 1;
            for (int parts = 1; parts < whole; parts++) {
                if (isKnot(parts)) {
                    return true;
                }
            }
            return false;
        }

        private boolean isKnot(int parts) {
            int oddMask = 0;
            for (int k = 0; k < many; k++) {
                if ((parts >> k & 1) != 0) {
                    oddMask ^= code.checksOf[pick[k]];
                }
            }
            for (int k = 0; k < many; k++) {
                if ((parts >> k & 1) != 0 && !code.isHeldBy(pick[k], oddMask)) {
                    return false;
                }
            }
            return true;
        }

        private void list() {
            int size = sizes[many];
            if (size >= lists[many].length) {
                lists[many] = Arrays.copyOf(lists[many], 2 * size + 1);
            }
            long set = 0;
            for (int k = 0; k < many; k++) {
                set |= 1L << pick[k];
            }
            lists[many][size] = set;
            sizes[many]++;
        }
    }

    /** The WORDS of a CODE with few CARRIERS, one behind the other by the numbers that tell them. */
    private static final class AllWords {
        private final long[] flips = new long[WORD_CARRIERS + 1];
        private int number;
        int many;
        long word;

        /** False: there are too many CARRIERS. */
        boolean open(Code code) {
            int carriers = code.bits - code.rank;
            if (carriers < 0 || carriers > WORD_CARRIERS) {
                return false;
            }
            for (int i = 0; i < carriers; i++) {
                flips[i] = code.wordOf((1L << i + 1) - 1);
            }
            flips[carriers] = 0;
            many = 1 << carriers;
            number = 0;
            word = 0;
            return true;
        }

        /** From a number to the next one its lowest bits change, up to the lowest that comes. */
        void turn() {
            number++;
            int flip = lowest(number);
            if (flip <= WORD_CARRIERS) {
                word ^= flips[flip];
            }
        }
    }

    /** THE PIPE, and what else an order of LAYERS costs. */
    private static final class Flow {
        private final int[] order = new int[MOST_ROWS];
        private final int[] latest = new int[WIDE];
        private int slot;
        int slots;
        int stalls;

        void run(Code code, int number, int latency) {
            fillOrder(code.rows, number, order);
            // as long ago as it takes to be READY
            Arrays.fill(latest, -latency);
            slot = 0;
            for (int sweep = 0; sweep < 3; sweep++) {
                slots = 0;
                stalls = 0;
                for (int place = 0; place < code.rows; place++) {
                    runLayer(code.columnsOf(order[place]), latency);
                }
            }
        }

        private void runLayer(int columns, int latency) {
            int left = columns;
            for (int n = 0; n < MOST_SLOTS && left != 0; n++) {
                int ready = readyOf(left, latency);
                if (ready == NONE) {
                    stalls++;
                } else {
                    latest[ready] = slot;
                    left &= ~(1 << ready);
                }
                slots++;
                slot++;
            }
        }

        private int readyOf(int left, int latency) {
            for (int column = 0; column < WIDE; column++) {
                if ((left >> column & 1) != 0 && slot - latest[column] >= latency) {
                    return column;
                }
            }
            return NONE;
        }

        int countClashes(Code code, int number) {
            if (code.rows < 2) {
                return 0;
            }
            fillOrder(code.rows, number, order);
            int count = 0;
            for (int place = 0; place < code.rows; place++) {
                int next = place + 1 < code.rows ? place + 1 : 0;
                count += Integer.bitCount(code.columnsOf(order[place]) & code.columnsOf(order[next]));
            }
            return count;
        }
    }
}
