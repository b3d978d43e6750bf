import java.util.List;
import java.util.function.Consumer;
import java.util.function.ToLongFunction;

/** Two objects with the same calls behind them: one more call is made of the first, then all that they answer is compared. */
final class Twins {
    /** What an object answers as the very first thing behind the call, or a number that stands for all of it. */
    private static final List<ToLongFunction<SowingBoards>> FIRST_ANSWERS = List.of(
        x -> x.count(2), x -> x.count(5), x -> x.sign(0), x -> x.board(), x -> x.passes(), x -> x.undo(), x -> x.looks(0),
        x -> x.adds(0, 1), x -> x.adds(3, 1), x -> x.heard(1, 1), x -> x.saw(0, 0), x -> x.fits(), x -> x.guess(), x -> x.best(),
        x -> x.would(0), x -> x.again(0) ? x.looks(0) * 10 + x.adds(0, 1) : Due.NONE,
        x -> x.again(1) ? x.looks(0) * 10 + x.adds(0, 1) : Due.NONE,
        x -> onABoard(x).worth(3) + Due.rowOf(x, 0), x -> onABoard(x).fits(), x -> onABoard(x).guess());

    private final String call;
    private final Consumer<SowingBoards> made;
    private final ToLongFunction<SowingBoards> one;
    private final boolean readsText;
    private SowingBoards x;
    private SowingBoards twin;

    private Twins(String call, Consumer<SowingBoards> made, ToLongFunction<SowingBoards> one, boolean readsText) {
        this.call = call;
        this.made = made;
        this.one = one;
        this.readsText = readsText;
    }

    /** Makes both objects; what the call answers. */
    private long make() {
        x = new SowingBoards();
        twin = new SowingBoards();
        made.accept(x);
        made.accept(twin);
        long answer = one.applyAsLong(x);
        if (readsText) {
            twin.end(0);
        }
        return answer;
    }

    /** The call answers so, and all is as if it had not been made. */
    static void nothing(String call, Consumer<SowingBoards> made, ToLongFunction<SowingBoards> one, long want) {
        Twins twins = new Twins(call, made, one, false);
        Due.same(call, twins.make(), want);
        twins.rows();
        twins.all();
    }

    /** The call answers so, and THE TEXT is empty; all else is as if it had not been made. */
    static void textAlone(String call, Consumer<SowingBoards> made, ToLongFunction<SowingBoards> one, long want) {
        Twins twins = new Twins(call, made, one, true);
        Due.same(call, twins.make(), want);
        Due.same(call + ": signs of THE TEXT", twins.x.count(10), 0);
        twins.rows();
        twins.all();
    }

    /** The call answers so, and the ROW is these; all else is as if it had not been made. */
    static void rowAlone(String call, Consumer<SowingBoards> made, ToLongFunction<SowingBoards> one, long want, long... row) {
        Twins twins = new Twins(call, made, one, false);
        Due.same(call, twins.make(), want);
        Due.row(call, twins.x, row);
        twins.all();
    }

    /** The call answers at least 0, and nothing but the ROW is changed, whatever it is. */
    static void anyRowAlone(String call, Consumer<SowingBoards> made, ToLongFunction<SowingBoards> one) {
        Twins twins = new Twins(call, made, one, false);
        Due.same(call + " is not refused", twins.make() >= 0, true);
        twins.all();
    }

    /** A board of 4 COLUMNS with all that can be changed: 4 that can be undone, 2 kept, 4 heard, 2 seen, a ROW of 3. */
    static void rich(SowingBoards x) {
        Due.board(x, "421034112");
        Due.laws(x, "srx");
        Due.rule(x, "p*3-n+o");
        x.passes();
        x.keep(1);
        x.moves(1);
        x.adds(6, 4);
        x.keep(0);
        x.again(0);
        x.moves(2);
        x.adds(1, 2);
        x.plays(1);
        x.passes();
        x.heard(1, 1);
        x.heard(2, 1);
        x.heard(4, 1);
        x.heard(1, 0);
        x.saw(1, 6);
        x.saw(2, 7);
        x.would(2);
        Due.text(x, "21234");
    }

    /** As rich(), but all PITS are empty, and it is OVER. */
    static void over(SowingBoards x) {
        rich(x);
        x.sheet(3, 0, 0, 0);
    }

    /** Where what was heard and seen, and THE RULE, tell something, whatever the position was. */
    private static SowingBoards onABoard(SowingBoards x) {
        Due.board(x, "421034112");
        return x;
    }

    private void same(String what, long got, long want) {
        Due.same(call + ", then " + what, got, want);
    }

    private void rows() {
        same("count(9)", x.count(9), twin.count(9));
        for (int i = 0; i < twin.count(9); i++) {
            same("row(" + i + ")", Due.rowOf(x, i), Due.rowOf(twin, i));
        }
    }

    private void all() {
        for (int what = 0; what <= 10; what++) {
            if (what != 9) {
                same("count(" + what + ")", x.count(what), twin.count(what));
            }
        }
        position();
        questions();
        int undone = twin.count(8);
        for (int i = 0; i < undone; i++) {
            same("undo()", x.undo(), twin.undo());
            position();
        }
        same("undo()", x.undo(), twin.undo());
        for (int i = 0; i < 2; i++) {
            same("again(" + i + ")", x.again(i) ? 1 : 0, twin.again(i) ? 1 : 0);
            position();
        }
        same("board()", x.board(), twin.board());
        position();
        firstAnswers();
    }

    /** Each of a new pair: what was asked ahead could have changed both alike. */
    private void firstAnswers() {
        for (int i = 0; i < FIRST_ANSWERS.size(); i++) {
            make();
            ToLongFunction<SowingBoards> first = FIRST_ANSWERS.get(i);
            same("answer " + i, first.applyAsLong(x), first.applyAsLong(twin));
        }
    }

    private void position() {
        same("count(1)", x.count(1), twin.count(1));
        same("count(2)", x.count(2), twin.count(2));
        for (int pit = 0; pit < 2 * twin.count(0); pit++) {
            same("pit(" + pit + ")", Due.pitOf(x, pit), Due.pitOf(twin, pit));
        }
        same("store(0)", x.store(0), twin.store(0));
        same("store(1)", x.store(1), twin.store(1));
    }

    private void questions() {
        same("fits()", x.fits(), twin.fits());
        same("guess()", x.guess(), twin.guess());
        rows();
        for (int p = 0; p < twin.count(0); p++) {
            same("worth(" + p + ")", x.worth(p), twin.worth(p));
            rows();
        }
    }
}
