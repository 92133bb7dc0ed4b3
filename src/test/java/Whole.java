import java.util.ArrayList;
import java.util.List;

/** All that an object shows at a time, for tests that nothing has changed, or that all is so again. */
final class Whole {
    private final List<String> names = new ArrayList<>();
    private final List<Long> answers = new ArrayList<>();

    private Whole() {
    }

    static Whole of(LiftedChecks x) {
        Whole whole = new Whole();
        whole.look("", x);
        return whole;
    }

    /** What it shows, then at each STEP that is taken back, then at THE IMAGE with what the tape has: x is spent. */
    static Whole spent(LiftedChecks x) {
        Whole whole = new Whole();
        whole.look("", x);
        int can = x.about(1);
        for (int n = 1; n <= can; n++) {
            whole.add("undo " + n, x.undo());
            whole.glance("undone " + n + ": ", x);
        }
        whole.add("undo of none", x.undo());
        whole.add("back", x.back());
        whole.look("back: ", x);
        whole.add("text", x.text());
        whole.add("fault(0)", x.fault(0));
        whole.add("fault(1)", x.fault(1));
        whole.add("load", x.load(x.about(0) - 1));
        whole.glance("loaded: ", x);
        return whole;
    }

    void isLike(String when, Whole due) {
        Due.is(when + ": how much there is", answers.size(), due.answers.size());
        for (int i = 0; i < answers.size() && i < due.answers.size(); i++) {
            Due.is(when + ": " + names.get(i), answers.get(i), due.answers.get(i));
        }
    }

    boolean isSame(Whole other) {
        return answers.equals(other.answers);
    }

    private void add(String name, long answer) {
        names.add(name);
        answers.add(answer);
    }

    /** Few calls, since an object is used for at most 512. */
    private void glance(String when, LiftedChecks x) {
        add(when + "is 2", x.is(2));
        add(when + "is 7", x.is(7));
        add(when + "is 9", x.is(9));
        add(when + "sent", x.sent());
        add(when + "guess", x.guess());
        add(when + "mean", x.mean());
        add(when + "cost", x.cost(0));
        add(when + "layer", x.layer(0));
    }

    private void look(String when, LiftedChecks x) {
        glance(when, x);
        for (int what = 0; what <= 10; what++) {
            add(when + "is " + what, x.is(what));
        }
        for (int what = 0; what <= 3; what++) {
            add(when + "about " + what, x.about(what));
        }
        add(when + "fault 0", x.fault(0));
        add(when + "fault 1", x.fault(1));
        int lift = x.is(0);
        int rows = x.is(1);
        int columns = x.is(2);
        for (int row = 0; row < rows; row++) {
            add(when + "layer " + row, x.layer(row));
            for (int column = 0; column < columns; column++) {
                add(when + "shift " + row + " " + column, x.shift(row, column));
            }
        }
        for (int bit = 0; bit < lift * columns; bit++) {
            add(when + "heard " + bit, x.bit(bit, 0));
            add(when + "belief " + bit, x.bit(bit, 1));
            add(when + "turned " + bit, x.turned(bit));
        }
        for (int check = 0; check < lift * rows; check++) {
            int many = x.has(check, -1);
            for (int i = 0; i < many; i++) {
                int bit = x.has(check, i);
                add(when + "message " + check + " " + bit, x.message(check, bit));
            }
        }
        int lines = x.book(-1, 0);
        add(when + "lines", lines);
        for (int i = 0; i < lines; i++) {
            add(when + "line " + i, x.book(i, 0) * 10000 + x.book(i, 1) * 100 + x.book(i, 2));
        }
    }
}
