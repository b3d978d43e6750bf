import java.util.Arrays;
import java.util.List;
import java.util.function.Consumer;
import java.util.function.Function;

/** What each call that is not refused changes, and that it changes nothing else. */
public final class EdgesOfEachCallTest {
    /** A part of what an object knows, shown on an object that may be spoilt by it. */
    private record Part(String name, Function<SowingBoards, String> shown) {
    }

    private static final List<Part> PARTS = List.of(
        new Part("position", EdgesOfEachCallTest::position),
        new Part("text", x -> x.count(10) + ": " + x.board() + " " + position(x)),
        new Part("row", EdgesOfEachCallTest::row),
        new Part("undo", EdgesOfEachCallTest::undone),
        new Part("kept", x -> x.again(0) + " " + position(x) + x.again(1) + " " + position(x)),
        new Part("laws", x -> x.count(5) + " " + onABoard(x, SowingBoards::starves)),
        new Part("rule", x -> onABoard(x, y -> y.worth(0)) + onABoard(x, y -> y.worth(1)) + onABoard(x, y -> y.worth(3))),
        new Part("heard", x -> x.count(6) + " " + onABoard(x, SowingBoards::fits)),
        new Part("seen", x -> x.count(7) + " " + onABoard(x, SowingBoards::guess)));

    public static void main(String[] args) {
        Edges.run(EdgesOfEachCallTest.class);
    }

    private static String position(SowingBoards x) {
        StringBuilder shown = new StringBuilder();
        for (int pit = 0; pit < 2 * x.count(0); pit++) {
            shown.append(x.pit(pit)).append(' ');
        }
        return shown + "and " + x.store(0) + " " + x.store(1) + ", TURN " + x.count(1) + ", MOVES " + x.count(2) + "; ";
    }

    private static String row(SowingBoards x) {
        StringBuilder shown = new StringBuilder();
        for (int i = 0; i < x.count(9); i++) {
            shown.append(x.row(i)).append(' ');
        }
        return shown + "; ";
    }

    private static String undone(SowingBoards x) {
        StringBuilder shown = new StringBuilder();
        int left = x.count(8);
        for (int i = 0; i < 20 && left > 0; i++) {
            left = x.undo();
            shown.append(left).append(": ").append(position(x));
        }
        return shown.toString();
    }

    /** An answer and its ROW on a board that is the same whatever the position was. */
    private static String onABoard(SowingBoards x, Function<SowingBoards, Integer> asked) {
        Due.board(x, "421034112");
        return asked.apply(x) + " " + row(x);
    }

    private static SowingBoards rich(String text) {
        SowingBoards x = new SowingBoards();
        Twins.rich(x);
        Due.text(x, text);
        return x;
    }

    /** By the call these parts are others than they would be, and no others. */
    private static void changes(String call, String text, Consumer<SowingBoards> one, String... parts) {
        for (Part part : PARTS) {
            SowingBoards x = rich(text);
            one.accept(x);
            String with = part.shown.apply(x);
            String without = part.shown.apply(rich(text));
            boolean other = Arrays.asList(parts).contains(part.name);
            Due.same(call + " changes " + part.name + " (" + without + " to " + with + ")", !with.equals(without), other);
        }
    }

    private static void changes(String call, Consumer<SowingBoards> one, String... parts) {
        changes(call, "21234", one, parts);
    }

    static void promise02SignChangesTheTextAlone() {
        changes("sign", x -> x.sign(0), "text");
    }

    static void promise03EndChangesTheTextAlone() {
        changes("end", x -> x.end(4), "text");
    }

    static void promise04BoardChangesPositionTextUndoAndKeptAlone() {
        changes("board", x -> x.board(), "position", "text", "undo", "kept");
    }

    static void promise05LawsChangesLawsAndTextAlone() {
        changes("laws", "srxk", x -> x.laws(), "laws", "text");
    }

    static void promise06RuleChangesRuleAndTextAlone() {
        changes("rule", "9*p", x -> x.rule(), "rule", "text");
    }

    static void promise09SheetChangesSeedsAlone() {
        for (int kind = 0; kind <= 2; kind++) {
            int of = kind;
            changes("sheet of kind " + kind, x -> x.sheet(of, 8, 1, 1), "position");
        }
        changes("a missing sheet", x -> x.sheet(3, 8, 1, 1), "position");
    }

    static void promise10MovesChangesPositionUndoAndRowAlone() {
        changes("moves", x -> x.moves(0), "position", "undo", "row");
    }

    static void promise11PlaysChangesPositionUndoAndRowAlone() {
        changes("plays", x -> x.plays(3), "position", "undo", "row");
    }

    static void promise12PassesChangesPositionAndUndoAlone() {
        changes("passes", x -> x.passes(), "position", "undo");
    }

    static void promise13AddsChangesPositionAndUndoAlone() {
        changes("adds", x -> x.adds(3, 1), "position", "undo");
    }

    static void promise14GameChangesPositionUndoRowAndTextAlone() {
        changes("game", "0*/", x -> x.game(), "position", "undo", "row", "text");
        changes("game that stops", "05/", x -> x.game(), "position", "undo", "row", "text");
        changes("game of which none is done", "5/", x -> x.game(), "row", "text");
        changes("game without ACTS", "", x -> x.game(), "row");
    }

    static void promise15UndoChangesPositionAndUndoAlone() {
        changes("undo", x -> x.undo(), "position", "undo");
    }

    static void promise34ComesChangesRowAndTextAlone() {
        changes("comes", "123", x -> x.comes(), "row", "text");
    }

    static void promise35HeardChangesWhatWasHeardAlone() {
        changes("heard", x -> x.heard(0, 0), "heard");
    }

    static void promise36ForgetChangesWhatWasHeardAlone() {
        changes("forget", x -> x.forget(), "heard");
    }

    static void promise39SawChangesWhatWasSeenAlone() {
        changes("saw", x -> x.saw(0, 0), "seen");
    }

    static void promise40DeniesChangesWhatWasSeenAlone() {
        changes("denies", x -> x.denies(), "seen");
    }

    static void promise44OtherChangesRowAndTextAlone() {
        changes("other", "p", x -> x.other(), "row", "text");
    }

    static void promise46KeepChangesWhatIsKeptAlone() {
        changes("keep(0)", x -> x.keep(0), "kept");
        changes("keep(1)", x -> x.keep(1), "kept");
    }

    static void promise47AgainChangesPositionAndUndoAlone() {
        changes("again(0)", x -> x.again(0), "position", "undo");
        changes("again(1)", x -> x.again(1), "position", "undo");
    }
}
