import java.util.ArrayList;
import java.util.Arrays;
import java.util.Collections;
import java.util.HashSet;
import java.util.LinkedList;
import java.util.List;
import java.util.Set;
import java.util.TreeSet;

/**
 * The document told again, word by word, without a thought of speed: lists, sets and full searches.
 * RandomRunsTest asks it and LiftedChecks the same things.
 */
public final class PlainModel {
    private static final int NONE = -1;

    /** What the tape and the FAULT are not part of. */
    private static final class All {
        int lift = 1;
        int offset = 1;
        int most = 15;
        int[][] shifts = {{0, 0}};
        Set<Integer> sent = new TreeSet<>();
        int[] heard;
        int[] belief;
        int[][] message;
        int x = 613;
        int mode;
        int state;
        int sweeps;
        int at;
        int[] turned;
        List<Integer> order = new ArrayList<>();
        List<int[]> book = new ArrayList<>();

        All copy() {
            All c = new All();
            c.lift = lift;
            c.offset = offset;
            c.most = most;
            c.shifts = deep(shifts);
            c.sent = new TreeSet<>(sent);
            c.heard = heard.clone();
            c.belief = belief.clone();
            c.message = deep(message);
            c.x = x;
            c.mode = mode;
            c.state = state;
            c.sweeps = sweeps;
            c.at = at;
            c.turned = turned.clone();
            c.order = new ArrayList<>(order);
            c.book = new ArrayList<>(book);
            return c;
        }

        int rows() {
            return shifts.length;
        }

        int columns() {
            return shifts[0].length;
        }

        int bits() {
            return lift * columns();
        }

        int checks() {
            return lift * rows();
        }

        boolean has(int check, int bit) {
            int shift = shifts[check / lift][bit / lift];
            return shift != NONE && (check % lift + shift) % lift == bit % lift;
        }

        List<Integer> bitsOf(int check) {
            List<Integer> found = new ArrayList<>();
            for (int bit = 0; bit < bits(); bit++) {
                if (has(check, bit)) {
                    found.add(bit);
                }
            }
            return found;
        }

        List<Integer> checksOf(int bit) {
            List<Integer> found = new ArrayList<>();
            for (int check = 0; check < checks(); check++) {
                if (has(check, bit)) {
                    found.add(check);
                }
            }
            return found;
        }

        boolean isOdd(int check, Set<Integer> set) {
            int n = 0;
            for (int bit : set) {
                n += has(check, bit) ? 1 : 0;
            }
            return n % 2 == 1;
        }

        int odds(Set<Integer> set) {
            int n = 0;
            for (int check = 0; check < checks(); check++) {
                n += isOdd(check, set) ? 1 : 0;
            }
            return n;
        }

        Set<Integer> guess() {
            Set<Integer> set = new TreeSet<>();
            for (int bit = 0; bit < bits(); bit++) {
                if (belief[bit] < 0) {
                    set.add(bit);
                }
            }
            return set;
        }

        void come(int newLift, int newOffset, int newMost, int[][] newShifts) {
            lift = newLift;
            offset = newOffset;
            most = newMost;
            shifts = deep(newShifts);
            sent = new TreeSet<>();
            heard = new int[bits()];
            order = new ArrayList<>();
            for (int row = 0; row < rows(); row++) {
                order.add(row);
            }
            begin(0);
        }

        void begin(int newMode) {
            mode = newMode;
            belief = heard.clone();
            message = new int[checks()][bits()];
            sweeps = 0;
            at = 0;
            book = new ArrayList<>();
            turned = new int[bits()];
            state = odds(guess()) == 0 ? 1 : 0;
        }

        void step() {
            Set<Integer> ahead = guess();
            int layer = NONE;
            if (mode == 0) {
                layer = order.get(at);
                for (int check = layer * lift; check < (layer + 1) * lift; check++) {
                    int[] fresh = fresh(check);
                    for (int bit : bitsOf(check)) {
                        belief[bit] = held(belief[bit] - message[check][bit] + fresh[bit]);
                        message[check][bit] = fresh[bit];
                    }
                }
                at++;
                if (at == rows()) {
                    at = 0;
                    sweeps++;
                }
            } else {
                int[][] all = new int[checks()][];
                for (int check = 0; check < checks(); check++) {
                    all[check] = fresh(check);
                }
                message = all;
                for (int bit = 0; bit < bits(); bit++) {
                    int sum = heard[bit];
                    for (int check : checksOf(bit)) {
                        sum += message[check][bit];
                    }
                    belief[bit] = held(sum);
                }
                sweeps++;
            }
            int changed = 0;
            for (int bit = 0; bit < bits(); bit++) {
                if (ahead.contains(bit) != guess().contains(bit)) {
                    turned[bit]++;
                    changed++;
                }
            }
            int odd = odds(guess());
            book.add(new int[] {layer, changed, odd});
            if (book.size() > 16) {
                book.remove(0);
            }
            state = odd == 0 ? 1 : sweeps == 20 ? 2 : 0;
        }

        private int[] fresh(int check) {
            int[] fresh = new int[bits()];
            for (int bit : bitsOf(check)) {
                int least = Integer.MAX_VALUE;
                int below = 0;
                for (int other : bitsOf(check)) {
                    if (other != bit) {
                        int rest = belief[other] - message[check][other];
                        least = Math.min(least, Math.abs(rest));
                        below += rest < 0 ? 1 : 0;
                    }
                }
                int size = least == Integer.MAX_VALUE ? 0 : Math.min(most, Math.max(0, least - offset));
                fresh[bit] = below % 2 == 1 ? -size : size;
            }
            return fresh;
        }

        int go(int n) {
            int gone = 0;
            while (gone < n && state == 0) {
                step();
                gone++;
            }
            return gone;
        }

        int draw(int level, int spoil) {
            int changed = 0;
            for (int bit = 0; bit < bits(); bit++) {
                x = (x * 839 + 577) % 30071;
                int value = sent.contains(bit) ? -level : level;
                if (x % 100 < spoil) {
                    value = -value;
                    changed++;
                }
                heard[bit] = value;
            }
            return changed;
        }
    }

    private static final class Code {
        int lift = 1;
        int offset = 1;
        int most = 15;
        List<List<Integer>> rows = new ArrayList<>();
    }

    private static final class Image {
        All now;
        List<All> past;
        List<Code> texts;
    }

    private All now = new All();
    private List<All> past = new ArrayList<>();
    private List<Code> texts = new ArrayList<>();
    private final List<Integer> tape = new ArrayList<>();
    private int fault = NONE;
    private int place = NONE;
    private Image image;

    public PlainModel() {
        now.come(1, 1, 15, new int[][] {{0, 0}});
        image();
    }

    private static int[][] deep(int[][] rows) {
        int[][] copy = rows.clone();
        for (int i = 0; i < copy.length; i++) {
            copy[i] = copy[i].clone();
        }
        return copy;
    }

    private static int held(int value) {
        return Math.max(-99, Math.min(99, value));
    }

    private static long number(Set<Integer> set) {
        long n = 0;
        for (int bit : set) {
            n |= 1L << bit;
        }
        return n;
    }

    /** Null: BITS that there are not. */
    private Set<Integer> setOf(long n) {
        Set<Integer> set = new TreeSet<>();
        for (int bit = 0; bit < 64; bit++) {
            if ((n >>> bit & 1) == 1) {
                set.add(bit);
                if (bit >= now.bits()) {
                    return null;
                }
            }
        }
        return set;
    }

    private void keep() {
        past.add(now.copy());
        if (past.size() > 20) {
            past.remove(0);
        }
    }

    private boolean isBit(int bit) {
        return bit >= 0 && bit < now.bits();
    }

    private boolean isCheck(int check) {
        return check >= 0 && check < now.checks();
    }

    public int feed(int a, int b, int c, int d, int e) {
        if (tape.size() + 20 > 300) {
            return NONE;
        }
        for (int four : new int[] {a, b, c, d, e}) {
            tape.add(four >>> 24);
            tape.add(four >>> 16 & 255);
            tape.add(four >>> 8 & 255);
            tape.add(four & 255);
        }
        return tape.size();
    }

    public int end(int n) {
        if (n < 0 || n > tape.size()) {
            return NONE;
        }
        tape.subList(n, tape.size()).clear();
        return n;
    }

    /** Each TOKEN with its place in front, as "12:row"; the end is one without letters. */
    private List<String> tokens() {
        List<String> found = new ArrayList<>();
        StringBuilder text = new StringBuilder();
        for (int sign : tape) {
            text.append((char) sign);
        }
        java.util.regex.Matcher m = java.util.regex.Pattern.compile("[a-z]+|[0-9]+|[^ \n]").matcher(text);
        while (m.find()) {
            found.add(m.start() + ":" + m.group());
        }
        found.add(tape.size() + ":");
        return found;
    }

    private static int value(String token) {
        return token.length() > 9 && !token.matches("0*[0-9]{1,9}") ? Integer.MAX_VALUE : Integer.parseInt(token);
    }

    public int text() {
        if (texts.size() == 4) {
            return NONE;
        }
        Code code = new Code();
        fault = 0;
        place = NONE;
        List<String> clause = new ArrayList<>();
        Set<String> told = new HashSet<>();
        int clauses = 0;
        for (String both : tokens()) {
            String token = both.substring(both.indexOf(':') + 1);
            TreeSet<Integer> faults = new TreeSet<>();
            if (clause.isEmpty()) {
                if (token.isEmpty()) {
                    if (code.rows.isEmpty()) {
                        faults.add(1);
                    }
                } else if (!List.of("lift", "row", "offset", "most").contains(token)) {
                    faults.add(1);
                }
                if (token.equals("lift") && clauses > 0) {
                    faults.add(4);
                }
                if (token.equals("row") && code.rows.size() == 4) {
                    faults.add(3);
                }
                if ((token.equals("offset") || token.equals("most")) && !told.add(token)) {
                    faults.add(4);
                }
                clause.add(token);
            } else if (clause.get(0).equals("row")) {
                int entries = clause.size() - 1;
                if (token.equals(";")) {
                    if (entries == 0) {
                        faults.add(1);
                    }
                    if (!code.rows.isEmpty() && code.rows.get(0).size() != entries) {
                        faults.add(5);
                    }
                    List<Integer> row = new ArrayList<>();
                    for (String entry : clause.subList(1, clause.size())) {
                        row.add(entry.equals(".") ? NONE : value(entry));
                    }
                    code.rows.add(row);
                    clause.clear();
                    clauses++;
                } else {
                    if (!token.matches("[0-9]+|\\.")) {
                        faults.add(1);
                    } else if (!token.equals(".") && value(token) >= code.lift) {
                        faults.add(2);
                    }
                    if (entries == 8) {
                        faults.add(3);
                    }
                    clause.add(token);
                }
            } else if (clause.size() == 1) {
                int low = clause.get(0).equals("offset") ? 0 : 1;
                int high = clause.get(0).equals("offset") ? 9 : clause.get(0).equals("most") ? 31 : 6;
                if (!token.matches("[0-9]+")) {
                    faults.add(1);
                } else if (value(token) < low || value(token) > high) {
                    faults.add(2);
                } else if (clause.get(0).equals("lift")) {
                    code.lift = value(token);
                } else if (clause.get(0).equals("offset")) {
                    code.offset = value(token);
                } else {
                    code.most = value(token);
                }
                clause.add(token);
            } else {
                if (!token.equals(";")) {
                    faults.add(1);
                }
                clause.clear();
                clauses++;
            }
            if (!faults.isEmpty()) {
                fault = faults.first();
                place = Integer.parseInt(both.substring(0, both.indexOf(':')));
                break;
            }
        }
        tape.clear();
        if (fault != 0) {
            return NONE;
        }
        texts.add(code);
        return texts.size() - 1;
    }

    public int fault(int what) {
        return what == 0 ? fault : what == 1 ? place : NONE;
    }

    public int load(int text) {
        if (text < 0 || text >= texts.size()) {
            return NONE;
        }
        keep();
        Code code = texts.get(text);
        int[][] shifts = new int[code.rows.size()][code.rows.get(0).size()];
        for (int row = 0; row < shifts.length; row++) {
            for (int column = 0; column < shifts[row].length; column++) {
                shifts[row][column] = code.rows.get(row).get(column);
            }
        }
        now.come(code.lift, code.offset, code.most, shifts);
        return now.bits();
    }

    /** Sums of CHECKS, each at the place of its lowest BIT, which is no CARRIER. */
    private long[] sums() {
        long[] sums = new long[now.bits()];
        for (int check = 0; check < now.checks(); check++) {
            long sum = number(new TreeSet<>(now.bitsOf(check)));
            for (int bit = 0; bit < now.bits(); bit++) {
                if ((sum >> bit & 1) == 1) {
                    if (sums[bit] == 0) {
                        sums[bit] = sum;
                        break;
                    }
                    sum ^= sums[bit];
                }
            }
        }
        return sums;
    }

    private List<Integer> carriers() {
        List<Integer> found = new ArrayList<>();
        long[] sums = sums();
        for (int bit = 0; bit < now.bits(); bit++) {
            if (sums[bit] == 0) {
                found.add(bit);
            }
        }
        return found;
    }

    private Set<Integer> word(long tells) {
        long[] sums = sums();
        List<Integer> carriers = carriers();
        long word = 0;
        for (int i = 0; i < carriers.size(); i++) {
            if ((tells >> i & 1) == 1) {
                word |= 1L << carriers.get(i);
            }
        }
        for (int bit = now.bits() - 1; bit >= 0; bit--) {
            if (sums[bit] != 0 && Long.bitCount(sums[bit] & word) % 2 == 1) {
                word |= 1L << bit;
            }
        }
        return setOf(word);
    }

    public int encode(long carriers) {
        if (carriers < 0 || carriers >= 1L << carriers().size()) {
            return NONE;
        }
        keep();
        now.sent = word(carriers);
        return now.sent.size();
    }

    private void move(int row, int column, int by) {
        keep();
        int[][] shifts = deep(now.shifts);
        for (int i = 0; i < now.rows(); i++) {
            for (int j = 0; j < now.columns(); j++) {
                if (shifts[i][j] != NONE && (i == row || j == column)) {
                    shifts[i][j] = (shifts[i][j] + by) % now.lift;
                }
            }
        }
        now.come(now.lift, now.offset, now.most, shifts);
    }

    public boolean raise(int column, int by) {
        if (column < 0 || column >= now.columns() || by < 1 || by > 5) {
            return false;
        }
        move(NONE, column, by);
        return true;
    }

    public boolean slide(int row, int by) {
        if (row < 0 || row >= now.rows() || by < 1 || by > 5) {
            return false;
        }
        move(row, NONE, by);
        return true;
    }

    public boolean hear(int bit, int value) {
        if (!isBit(bit) || value < -31 || value > 31) {
            return false;
        }
        keep();
        now.heard[bit] = value;
        return true;
    }

    public int send(int level, int spoil) {
        if (level < 1 || level > 31 || spoil < 0 || spoil > 100) {
            return NONE;
        }
        keep();
        return now.draw(level, spoil);
    }

    public int begin(int mode) {
        if (mode < 0 || mode > 1) {
            return NONE;
        }
        keep();
        now.begin(mode);
        return now.state;
    }

    private List<List<Integer>> orders() {
        List<List<Integer>> found = new ArrayList<>();
        int rows = now.rows();
        int all = 1;
        for (int i = 0; i < rows; i++) {
            all *= rows;
        }
        for (int n = 0; n < all; n++) {
            LinkedList<Integer> order = new LinkedList<>();
            for (int rest = n, i = 0; i < rows; i++, rest /= rows) {
                order.addFirst(rest % rows);
            }
            if (new HashSet<>(order).size() == rows) {
                found.add(order);
            }
        }
        return found;
    }

    private boolean isOrder(int number) {
        return number >= 0 && number < orders().size();
    }

    public boolean order(int number) {
        if (!isOrder(number)) {
            return false;
        }
        keep();
        now.order = new ArrayList<>(orders().get(number));
        now.begin(now.mode);
        return true;
    }

    public int step(int n) {
        if (n < 1 || n > 80 || now.state != 0) {
            return NONE;
        }
        keep();
        return now.go(n);
    }

    public int undo() {
        if (past.isEmpty()) {
            return NONE;
        }
        now = past.remove(past.size() - 1).copy();
        return past.size();
    }

    public boolean tell(int x) {
        if (x < 0 || x > 30070) {
            return false;
        }
        now.x = x;
        return true;
    }

    public int is(int what) {
        int[] all = {now.lift, now.rows(), now.columns(), now.offset, now.most, now.mode, now.state, now.sweeps,
            now.at, now.x, now.odds(now.guess())};
        return what < 0 || what > 10 ? NONE : all[what];
    }

    public int shift(int row, int column) {
        if (row < 0 || row >= now.rows() || column < 0 || column >= now.columns()) {
            return -2;
        }
        return now.shifts[row][column];
    }

    public int layer(int place) {
        return place < 0 || place >= now.order.size() ? NONE : now.order.get(place);
    }

    public int has(int check, int i) {
        if (!isCheck(check)) {
            return NONE;
        }
        List<Integer> bits = now.bitsOf(check);
        if (i == NONE) {
            return bits.size();
        }
        return i < 0 || i >= bits.size() ? NONE : bits.get(i);
    }

    public int both(int check, int other) {
        if (!isCheck(check) || !isCheck(other)) {
            return NONE;
        }
        List<Integer> bits = now.bitsOf(check);
        bits.retainAll(now.bitsOf(other));
        return bits.size();
    }

    public long loose() {
        Set<Integer> set = new TreeSet<>();
        for (int bit = 0; bit < now.bits(); bit++) {
            if (now.checksOf(bit).isEmpty()) {
                set.add(bit);
            }
        }
        return number(set);
    }

    public int degree(int bit) {
        return isBit(bit) ? now.checksOf(bit).size() : NONE;
    }

    public int bit(int bit, int what) {
        if (!isBit(bit)) {
            return -100;
        }
        switch (what) {
            case 0: return now.heard[bit];
            case 1: return now.belief[bit];
            case 2: return now.guess().contains(bit) ? 1 : 0;
            case 3: return now.sent.contains(bit) ? 1 : 0;
            case 4: return carriers().contains(bit) ? 1 : 0;
            default: return -100;
        }
    }

    public int message(int check, int bit) {
        return isCheck(check) && isBit(bit) && now.has(check, bit) ? now.message[check][bit] : -100;
    }

    public boolean odd(int check) {
        return isCheck(check) && now.isOdd(check, now.guess());
    }

    public int book(int i, int what) {
        if (i == NONE) {
            return now.book.size();
        }
        return i < 0 || i >= now.book.size() || what < 0 || what > 2 ? -2 : now.book.get(i)[what];
    }

    public int turned(int bit) {
        return isBit(bit) ? now.turned[bit] : NONE;
    }

    public int restless() {
        int most = Arrays.stream(now.turned).max().getAsInt();
        for (int bit = 0; bit < now.bits(); bit++) {
            if (most > 0 && now.turned[bit] == most) {
                return bit;
            }
        }
        return NONE;
    }

    public long guess() {
        return number(now.guess());
    }

    public long sent() {
        return number(now.sent);
    }

    public int wrong() {
        int n = 0;
        for (int bit = 0; bit < now.bits(); bit++) {
            n += now.guess().contains(bit) != now.sent.contains(bit) ? 1 : 0;
        }
        return n;
    }

    public int rank() {
        return now.bits() - carriers().size();
    }

    public int carrier(int i) {
        List<Integer> carriers = carriers();
        return i < 0 || i >= carriers.size() ? NONE : carriers.get(i);
    }

    /** RINGS through CHECKS and BITS in turn, each found once for each place it may begin at and either way round. */
    private int rings(int length) {
        int walks = 0;
        for (int check = 0; check < now.checks(); check++) {
            walks += walks(new ArrayList<>(List.of(check)), new ArrayList<>(), length);
        }
        return walks / length;
    }

    private int walks(List<Integer> checks, List<Integer> bits, int length) {
        int last = checks.get(checks.size() - 1);
        int found = 0;
        for (int bit : now.bitsOf(last)) {
            if (bits.contains(bit)) {
                continue;
            }
            bits.add(bit);
            if (2 * bits.size() == length) {
                found += checks.size() > 1 && now.has(checks.get(0), bit) ? 1 : 0;
            } else {
                for (int check : now.checksOf(bit)) {
                    if (!checks.contains(check)) {
                        checks.add(check);
                        found += walks(checks, bits, length);
                        checks.remove(checks.size() - 1);
                    }
                }
            }
            bits.remove(bits.size() - 1);
        }
        return found;
    }

    /** From a vertex outwards: two edges that meet close a ring. BITS are 0 .., CHECKS 100 .. */
    public int girth() {
        int best = NONE;
        for (int start = 0; start < now.bits(); start++) {
            int[] depth = new int[200];
            int[] from = new int[200];
            Arrays.fill(depth, NONE);
            LinkedList<Integer> queue = new LinkedList<>(List.of(start));
            depth[start] = 0;
            from[start] = NONE;
            while (!queue.isEmpty()) {
                int at = queue.removeFirst();
                List<Integer> beside = new ArrayList<>();
                if (at < 100) {
                    for (int check : now.checksOf(at)) {
                        beside.add(100 + check);
                    }
                } else {
                    beside.addAll(now.bitsOf(at - 100));
                }
                for (int next : beside) {
                    if (depth[next] == NONE) {
                        depth[next] = depth[at] + 1;
                        from[next] = at;
                        queue.add(next);
                    } else if (from[at] != next) {
                        int length = depth[at] + depth[next] + 1;
                        best = best == NONE ? length : Math.min(best, length);
                    }
                }
            }
        }
        return best;
    }

    public int fours() {
        return rings(4);
    }

    public int sixes() {
        return rings(6);
    }

    public int path(int bit, int other) {
        if (!isBit(bit) || !isBit(other)) {
            return NONE;
        }
        int[] far = new int[now.bits()];
        Arrays.fill(far, NONE);
        far[bit] = 0;
        LinkedList<Integer> queue = new LinkedList<>(List.of(bit));
        while (!queue.isEmpty()) {
            int at = queue.removeFirst();
            for (int check : now.checksOf(at)) {
                for (int next : now.bitsOf(check)) {
                    if (far[next] == NONE) {
                        far[next] = far[at] + 1;
                        queue.add(next);
                    }
                }
            }
        }
        return far[other];
    }

    public int pieces() {
        int n = 0;
        for (int bit = 0; bit < now.bits(); bit++) {
            boolean first = true;
            for (int lower = 0; lower < bit; lower++) {
                first &= path(lower, bit) == NONE;
            }
            n += first ? 1 : 0;
        }
        return n;
    }

    public int odds(long set) {
        return setOf(set) == null ? NONE : now.odds(setOf(set));
    }

    private boolean isKnot(Set<Integer> set) {
        if (set.isEmpty() || set.size() > 4) {
            return false;
        }
        for (int bit : set) {
            int odd = 0;
            int even = 0;
            for (int check : now.checksOf(bit)) {
                if (now.isOdd(check, set)) {
                    odd++;
                } else {
                    even++;
                }
            }
            if (even <= odd) {
                return false;
            }
        }
        return true;
    }

    public boolean knot(long set) {
        return setOf(set) != null && isKnot(setOf(set));
    }

    private static List<Set<Integer>> parts(Set<Integer> set) {
        List<Integer> list = new ArrayList<>(set);
        List<Set<Integer>> found = new ArrayList<>();
        for (int n = 1; n < (1 << list.size()) - 1; n++) {
            Set<Integer> part = new TreeSet<>();
            for (int i = 0; i < list.size(); i++) {
                if ((n >> i & 1) == 1) {
                    part.add(list.get(i));
                }
            }
            found.add(part);
        }
        return found;
    }

    /** All SETS of so many BITS in their order. */
    private List<Set<Integer>> sets(int many) {
        List<Set<Integer>> found = new ArrayList<>();
        grow(new TreeSet<>(), 0, many, found);
        return found;
    }

    private void grow(TreeSet<Integer> set, int from, int many, List<Set<Integer>> found) {
        if (set.size() == many) {
            found.add(new TreeSet<>(set));
            return;
        }
        for (int bit = from; bit < now.bits(); bit++) {
            set.add(bit);
            grow(set, bit + 1, many, found);
            set.remove(bit);
        }
    }

    private List<Set<Integer>> leastKnots(int many) {
        List<Set<Integer>> found = new ArrayList<>();
        for (Set<Integer> set : sets(many)) {
            if (isKnot(set)) {
                boolean least = true;
                for (Set<Integer> part : parts(set)) {
                    least &= !isKnot(part);
                }
                if (least) {
                    found.add(set);
                }
            }
        }
        return found;
    }

    private static boolean isMany(int many) {
        return many >= 1 && many <= 4;
    }

    public int knots(int many) {
        return isMany(many) ? leastKnots(many).size() : NONE;
    }

    public long least(int many, int i) {
        if (!isMany(many) || i < 0) {
            return 0;
        }
        List<Set<Integer>> found = leastKnots(many);
        return i < found.size() ? number(found.get(i)) : 0;
    }

    private boolean isStopper(Set<Integer> set) {
        for (int check = 0; check < now.checks(); check++) {
            Set<Integer> common = new TreeSet<>(now.bitsOf(check));
            common.retainAll(set);
            if (common.size() == 1) {
                return false;
            }
        }
        return true;
    }

    public int stoppers(int many) {
        return isMany(many) ? (int) sets(many).stream().filter(this::isStopper).count() : NONE;
    }

    public int words(int many) {
        return isMany(many) ? (int) sets(many).stream().filter(set -> now.odds(set) == 0).count() : NONE;
    }

    private int trap(Set<Integer> set, int level) {
        All play = now.copy();
        for (int bit = 0; bit < play.bits(); bit++) {
            play.heard[bit] = set.contains(bit) ? -level : level;
        }
        play.begin(0);
        play.go(1000);
        return play.guess().isEmpty() ? 0 : play.state;
    }

    private static boolean isLevel(int level) {
        return level >= 1 && level <= 31;
    }

    public int trapped(int many, int i, int level) {
        if (!isMany(many) || !isLevel(level) || i < 0 || i >= leastKnots(many).size()) {
            return NONE;
        }
        return trap(leastKnots(many).get(i), level);
    }

    public int traps(int many, int level) {
        if (!isMany(many) || !isLevel(level)) {
            return NONE;
        }
        return (int) leastKnots(many).stream().limit(20).filter(set -> trap(set, level) > 0).count();
    }

    public long weakest(int level) {
        for (int many = 1; many <= 4 && isLevel(level); many++) {
            List<Set<Integer>> found = leastKnots(many);
            for (int i = 0; i < Math.min(20, found.size()); i++) {
                if (trap(found.get(i), level) > 0) {
                    return number(found.get(i));
                }
            }
        }
        return 0;
    }

    private Set<Integer> peel(Set<Integer> set) {
        Set<Integer> left = new TreeSet<>(set);
        boolean more = true;
        while (more) {
            more = false;
            for (int check = 0; check < now.checks() && !more; check++) {
                List<Integer> common = now.bitsOf(check);
                common.retainAll(left);
                if (common.size() == 1) {
                    left.removeAll(common);
                    more = true;
                }
            }
        }
        return left;
    }

    public long peeled(long set) {
        return setOf(set) == null ? NONE : number(peel(setOf(set)));
    }

    public int known(long set) {
        return setOf(set) == null ? NONE : setOf(set).size() - peel(setOf(set)).size();
    }

    public int erasable(int many) {
        return isMany(many) ? (int) sets(many).stream().filter(set -> peel(set).isEmpty()).count() : NONE;
    }

    private int costOf(Set<Integer> set) {
        int sum = 0;
        for (int bit = 0; bit < now.bits(); bit++) {
            int value = now.heard[bit];
            if (set.contains(bit) && value > 0 || !set.contains(bit) && value < 0) {
                sum += Math.abs(value);
            }
        }
        return sum;
    }

    public int cost(long set) {
        return setOf(set) == null ? NONE : costOf(setOf(set));
    }

    /** Null: there are too many CARRIERS. */
    private List<Set<Integer>> allWords() {
        if (carriers().size() > 12) {
            return null;
        }
        List<Set<Integer>> found = new ArrayList<>();
        for (int n = 0; n < 1 << carriers().size(); n++) {
            found.add(word(n));
        }
        return found;
    }

    public long likeliest() {
        List<Set<Integer>> all = allWords();
        return all == null ? NONE : number(Collections.min(all, (a, b) -> costOf(a) - costOf(b)));
    }

    public int lightest() {
        List<Set<Integer>> all = allWords();
        return all == null ? NONE : all.stream().mapToInt(Set::size).filter(n -> n > 0).min().orElse(NONE);
    }

    public int spectrum(int n) {
        List<Set<Integer>> all = allWords();
        return all == null || n < 0 ? NONE : (int) all.stream().filter(w -> w.size() == n).count();
    }

    private int unlike(Set<Integer> word) {
        return Long.bitCount(number(word) ^ guess());
    }

    public long nearest() {
        List<Set<Integer>> all = allWords();
        return all == null ? NONE : number(Collections.min(all, (a, b) -> unlike(a) - unlike(b)));
    }

    public int pipe(int number, int latency, int what) {
        if (!isOrder(number) || latency < 1 || latency > 9 || what < 0 || what > 1) {
            return NONE;
        }
        List<Integer> layers = new ArrayList<>();
        for (int i = 0; i < 3; i++) {
            layers.addAll(orders().get(number));
        }
        List<Integer> slots = new ArrayList<>();
        int begun = 0;
        for (int i = 0; i < layers.size(); i++) {
            if (i == 2 * now.rows()) {
                begun = slots.size();
            }
            TreeSet<Integer> left = new TreeSet<>();
            for (int column = 0; column < now.columns(); column++) {
                if (now.shifts[layers.get(i)][column] != NONE) {
                    left.add(column);
                }
            }
            while (!left.isEmpty()) {
                int chosen = NONE;
                for (int column : left) {
                    int latest = slots.lastIndexOf(column);
                    if (chosen == NONE && (latest < 0 || slots.size() - latest >= latency)) {
                        chosen = column;
                    }
                }
                slots.add(chosen);
                left.remove(chosen);
            }
        }
        List<Integer> third = slots.subList(begun, slots.size());
        return what == 0 ? third.size() : Collections.frequency(third, NONE);
    }

    public int quietest(int latency) {
        if (latency < 1 || latency > 9) {
            return NONE;
        }
        int best = 0;
        for (int number = 1; number < orders().size(); number++) {
            best = pipe(number, latency, 0) < pipe(best, latency, 0) ? number : best;
        }
        return best;
    }

    public int clashes(int number) {
        if (!isOrder(number)) {
            return NONE;
        }
        List<Integer> order = orders().get(number);
        int n = 0;
        for (int i = 0; i < order.size() && order.size() > 1; i++) {
            int[] one = now.shifts[order.get(i)];
            int[] next = now.shifts[order.get((i + 1) % order.size())];
            for (int column = 0; column < now.columns(); column++) {
                n += one[column] != NONE && next[column] != NONE ? 1 : 0;
            }
        }
        return n;
    }

    public int calmest() {
        int best = 0;
        for (int number = 1; number < orders().size(); number++) {
            best = clashes(number) < clashes(best) ? number : best;
        }
        return best;
    }

    public int foretold(int n) {
        if (n < 1 || n > 80) {
            return NONE;
        }
        All play = now.copy();
        play.go(n);
        return play.state;
    }

    public int believed(int n, int bit) {
        if (n < 1 || n > 80 || !isBit(bit)) {
            return -100;
        }
        All play = now.copy();
        play.go(n);
        return play.belief[bit];
    }

    public int till() {
        return now.copy().go(1000);
    }

    public int fewer() {
        int[] sweeps = new int[2];
        for (int mode = 0; mode < 2; mode++) {
            All play = now.copy();
            play.begin(mode);
            play.go(1000);
            sweeps[mode] = play.state == 1 ? play.sweeps : 1000;
        }
        return sweeps[1] < sweeps[0] ? 1 : sweeps[0] < 1000 ? 0 : NONE;
    }

    public int trials(int level, int spoil, int n, int what) {
        if (!isLevel(level) || spoil < 0 || spoil > 100 || n < 1 || n > 20 || what < 0 || what > 3) {
            return NONE;
        }
        int[] counts = new int[4];
        All play = now.copy();
        for (int i = 0; i < n; i++) {
            play.draw(level, spoil);
            play.begin(play.mode);
            play.go(1000);
            counts[play.guess().equals(play.sent) ? 0 : play.state == 1 ? 1 : 2]++;
            counts[3] += play.sweeps;
        }
        return counts[what];
    }

    public long mean() {
        double sum = 0;
        for (int value : now.belief) {
            sum += Math.abs(value);
        }
        return Double.doubleToLongBits(sum / now.bits());
    }

    public int image() {
        image = new Image();
        image.now = now.copy();
        image.past = new ArrayList<>(past);
        image.texts = new ArrayList<>(texts);
        return now.bits();
    }

    public int back() {
        now = image.now.copy();
        past = new ArrayList<>(image.past);
        texts = new ArrayList<>(image.texts);
        return now.bits();
    }

    public int about(int what) {
        switch (what) {
            case 0: return texts.size();
            case 1: return past.size();
            case 2: return tape.size();
            case 3: return orders().size();
            default: return -2;
        }
    }
}
