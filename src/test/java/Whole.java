import java.util.ArrayList;
import java.util.List;
import java.util.function.Consumer;
import java.util.function.ToLongFunction;

/** All that can be asked of a station, so that two of them can be compared. */
final class Whole extends Checks {
    private final RailsGrowWider x;
    private final List<String> answers = new ArrayList<>();

    private Whole(RailsGrowWider x) {
        this.x = x;
    }

    private void note(String call, long answer) {
        answers.add(call + " = " + answer);
    }

    /** What STEPS change. */
    static List<String> yardOf(RailsGrowWider x) {
        Whole whole = new Whole(x);
        whole.noteYard();
        whole.noteBook(MOST);
        return whole.answers;
    }

    /** All that is, by some 350 calls; the station is used up by it. */
    static List<String> usedUp(RailsGrowWider x) {
        Whole whole = new Whole(x);
        whole.noteYard();
        whole.noteBook(3);
        whole.noteWhatFollows();
        whole.noteAccounts();
        whole.noteTexts();
        whole.noteSteps();
        whole.noteTape();
        whole.noteImage();
        return whole.answers;
    }

    private void noteYard() {
        for (int what = 0; what <= 7; what++) {
            note("about(" + what + ")", x.about(what));
        }
        for (int what = 0; what <= 4; what++) {
            note("is(" + what + ")", x.is(what));
        }
        for (int car = 0; car < x.about(0); car++) {
            for (int what = 0; what <= 5; what++) {
                note("of(" + car + ", " + what + ")", x.of(car, what));
            }
        }
        for (int track = 0; track <= 2; track++) {
            for (int i = -1; i < 5; i++) {
                note("track(" + track + ", " + i + ")", x.track(track, i));
            }
        }
    }

    /** So many of the eldest and of the latest lines. */
    private void noteBook(int many) {
        int lines = x.book(NONE, 0);
        note("book(-1, 0)", lines);
        for (int i = 0; i < lines; i++) {
            for (int what = 0; what <= 3 && (i < many || i >= lines - many); what++) {
                note("book(" + i + ", " + what + ")", x.book(i, what));
            }
        }
    }

    private void noteWhatFollows() {
        note("fault(0)", x.fault(0));
        note("fault(1)", x.fault(1));
        note("foretold(9, 2)", x.foretold(9, 2));
        for (int i = -1; i < 8; i++) {
            note("shunts(" + i + ")", x.shunts(i));
        }
        note("reach()", x.reach());
        for (int track = 0; track <= 2; track++) {
            note("rows(" + track + ")", x.rows(track));
            note("lowest(" + track + ", 0)", x.lowest(track, 0));
            note("lowest(" + track + ", 1)", x.lowest(track, 1));
        }
        note("crane(true)", x.crane(true));
        note("crane(false)", x.crane(false));
        note("idle()", x.idle());
        note("amiss()", x.amiss());
    }

    private void noteAccounts() {
        for (int railway = 0; railway <= 5; railway++) {
            note("balance(" + railway + ")", x.balance(railway));
            note("group(" + railway + ")", x.group(railway));
        }
        note("stock(false)", x.stock(false));
        note("stock(true)", x.stock(true));
        note("histories(false)", x.histories(false));
        note("histories(true)", x.histories(true));
        for (int car = 0; car < x.about(0); car++) {
            note("likely(" + (1 << car) + ", true)", x.likely(1 << car, true));
            note("likely(" + (1 << car) + ", false)", x.likely(1 << car, false));
        }
        note("whose()", x.whose());
    }

    /** Each of them rules for a while. */
    private void noteTexts() {
        note("law(0, 1)", x.law(0, 1));
        note("law(1, 1)", x.law(1, 1));
        for (int text = 0; text < x.about(1); text++) {
            x.by(text);
            for (int from = 0; from <= 2; from++) {
                note("by(" + text + "), law(" + from + ", 1)", x.law(from, 1));
                note("by(" + text + "), law(" + from + ", " + from + ")", x.law(from, from));
            }
        }
        x.by(NONE);
    }

    private void noteSteps() {
        for (int k = 0; k <= 30; k++) {
            note("undo()", x.undo());
            note("is(1)", x.is(1));
            note("is(4)", x.is(4));
        }
    }

    private void noteTape() {
        note("text()", x.text());
        note("fault(0)", x.fault(0));
        note("fault(1)", x.fault(1));
        note("about(7)", x.about(7));
        note("played", x.played(x.about(1) - 1));
        note("is(0)", x.is(0));
    }

    private void noteImage() {
        note("back()", x.back());
        for (int what = 0; what <= 7; what++) {
            note("about(" + what + ")", x.about(what));
        }
        for (int what = 0; what <= 4; what++) {
            note("is(" + what + ")", x.is(what));
        }
        for (int car = 0; car < 5; car++) {
            note("of(" + car + ", 2)", x.of(car, 2));
            note("of(" + car + ", 3)", x.of(car, 3));
        }
        note("undo()", x.undo());
        note("is(1)", x.is(1));
    }

    static void alike(String what, List<String> got, List<String> want) {
        due(what + ", answers", got.size(), want.size());
        for (int k = 0; k < Math.min(got.size(), want.size()); k++) {
            due(what, got.get(k), want.get(k));
        }
    }

    /** A call with its answer, behind which all is as without it. */
    static void unchanged(String call, Consumer<RailsGrowWider> setUp, ToLongFunction<RailsGrowWider> asked, long answer) {
        RailsGrowWider one = new RailsGrowWider();
        setUp.accept(one);
        due(call, asked.applyAsLong(one), answer);
        unchangedBehind(call, setUp, one);
    }

    private static void unchangedBehind(String call, Consumer<RailsGrowWider> setUp, RailsGrowWider one) {
        RailsGrowWider other = new RailsGrowWider();
        setUp.accept(other);
        alike("behind " + call, usedUp(one), usedUp(other));
    }
}
