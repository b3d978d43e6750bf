import java.util.function.Consumer;

/** Promises 10 to 15. */
public final class EdgesOfMovesTest {
    private static final int MIN = Integer.MIN_VALUE;
    private static final int MAX = Integer.MAX_VALUE;
    private static final Consumer<SowingBoards> RICH = Twins::rich;
    private static final Consumer<SowingBoards> OVER = Twins::over;

    public static void main(String[] args) {
        Edges.run(EdgesOfMovesTest.class);
    }

    // ---- promise 10

    static void promise10NoneIfThePitIsNotThere() {
        for (int p : new int[] {MIN, -1, 4, 5, 8, MAX}) {
            Twins.nothing("moves(" + p + ")", RICH, x -> x.moves(p), Due.NONE);
        }
    }

    static void promise10NothingIfThePitIsEmpty() {
        Twins.nothing("moves(3)", RICH, x -> x.moves(3), Due.NOTHING);
        for (int p = 0; p < 4; p++) {
            int asked = p;
            Twins.nothing("over, moves(" + p + ")", OVER, x -> x.moves(asked), Due.NOTHING);
        }
    }

    static void promise10TheFirstAndTheLastPit() {
        SowingBoards x = Sown.board("s", 0, 1, 0, 1, 1, 0, 1);
        Due.same("PIT 0", x.moves(0), 0);
        Due.row("PIT 0", x, 1, 1, 1);
        Due.same("PIT 2 of side 1", x.moves(2), 1);
        Due.row("PIT 2 of side 1", x, 1, Due.STORE, 0);
        Due.same("PIT 2", x.moves(2), 1);
        Due.same("PIT 0 of side 1", x.moves(0), 0);
        Due.row("PIT 0 of side 1", x, 1, 4, 0);
    }

    static void promise10SeedsThatCameToTheStoreByItAlone() {
        SowingBoards x = Sown.board("sx", 0, 2, 1, 0, 0);
        Due.same("one", x.moves(1), 1);
        Due.same("another one", x.moves(0), 1);
        Due.same("both", x.store(0), 2);
        Due.same("and the third", x.moves(1), 1);
        Due.same("none is left", x.moves(1), Due.NOTHING);
        Due.row("the ROW stays", x, 1, Due.STORE, 0);
    }

    static void promise10OneMoreThatCanBeUndone() {
        SowingBoards x = Sown.board("", 0, new int[] {9, 0, 0, 0});
        Due.same("a board and adds", x.count(8), 1);
        x.moves(0);
        Due.same("and a MOVE", x.count(8), 2);
    }

    // ---- promise 11

    /** Two SEEDS that go round without end. */
    private static SowingBoards circle() {
        SowingBoards x = Due.made("21001", "");
        Due.rule(x, "p");
        return x;
    }

    static void promise11OneMoveIsTheLeast() {
        SowingBoards x = circle();
        Due.same("plays(1)", x.plays(1), 1);
        Due.pits("plays(1)", x, 0, 1, 0, 1);
        Due.same("MOVES", x.count(2), 1);
    }

    static void promise11SixtyMovesAreTheMost() {
        SowingBoards x = circle();
        Due.same("plays(60)", x.plays(60), 60);
        Due.pits("plays(60)", x, 1, 0, 0, 1);
        Due.same("MOVES", x.count(2), 60);
        Due.same("TURN", x.count(1), 0);
        Due.same("plays(59)", x.plays(59), 59);
        Due.pits("plays(59)", x, 1, 0, 1, 0);
    }

    static void promise11AnotherNumberIsRefused() {
        for (int n : new int[] {MIN, -1, 0, 61, 62, MAX}) {
            Twins.nothing("plays(" + n + ")", RICH, x -> x.plays(n), Due.NONE);
            Twins.nothing("over, plays(" + n + ")", OVER, x -> x.plays(n), Due.NONE);
        }
    }

    static void promise11NothingIfItIsOver() {
        Twins.nothing("over, plays(1)", OVER, x -> x.plays(1), Due.NOTHING);
        Twins.nothing("over, plays(60)", OVER, x -> x.plays(60), Due.NOTHING);
    }

    static void promise11FewerIfItIsOver() {
        for (int n = 1; n <= 4; n++) {
            SowingBoards x = Due.made("21100", "scx");
            Due.same("plays(" + n + ")", x.plays(n), Math.min(n, 2));
            Due.same("MOVES", x.count(2), Math.min(n, 2));
            Due.row("both STORES", x, 1, 0);
        }
        SowingBoards x = Due.made("21100", "scx");
        Due.same("plays(60)", x.plays(60), 2);
        Due.same("over", x.count(4), 1);
    }

    static void promise11SeedsOfBothStoresThen() {
        SowingBoards x = Sown.board("s", 0, 0, 1, 0, 2);
        x.passes();
        Due.same("side 1", x.plays(1), 1);
        Due.row("of side 0, of side 1", x, 0, 1);
        Due.same("side 0", x.plays(1), 1);
        Due.row("of side 0, of side 1", x, 1, 1);
    }

    static void promise11TurnThatStaysGoesOn() {
        SowingBoards x = Due.made("3321000", "sx");
        Due.rule(x, "a*9+p");
        Due.same("plays(5)", x.plays(5), 5);
        Due.row("five in one TURN", x, 5, 0);
        Due.same("TURN", x.count(1), 0);
    }

    // ---- promise 12

    static void promise12TurnIsTheOthers() {
        SowingBoards x = new SowingBoards();
        Due.same("of side 1", x.passes(), 1);
        Due.same("TURN", x.count(1), 1);
        Due.same("of side 0", x.passes(), 0);
        Due.same("TURN", x.count(1), 0);
    }

    static void promise12MovesStay() {
        SowingBoards x = new SowingBoards();
        RICH.accept(x);
        Due.same("passes()", x.passes(), 0);
        Due.same("MOVES", x.count(2), 3);
        Due.row("the ROW", x, 1, 7, 0);
        Due.pits("the PITS", x, 4, 3, 2, 0, 5, 1, 1, 0);
        Due.stores("the STORES", x, 1, 3);
    }

    static void promise12ThoughItIsOver() {
        SowingBoards x = new SowingBoards();
        OVER.accept(x);
        Due.same("passes()", x.passes(), 0);
        Due.same("undo()", x.undo(), 4);
        Due.same("TURN", x.count(1), 1);
    }

    // ---- promise 13

    static void promise13OneTo9Seeds() {
        for (int n = 1; n <= 9; n++) {
            SowingBoards x = new SowingBoards();
            Due.same("adds(2, " + n + ")", x.adds(2, n), 3 + n);
            Due.pits("adds", x, 3, 3, 3 + n, 3, 3, 3);
        }
    }

    static void promise13OtherNumbersAreRefused() {
        for (int n : new int[] {MIN, -1, 0, 10, 11, MAX}) {
            Twins.nothing("adds(0, " + n + ")", RICH, x -> x.adds(0, n), Due.NONE);
            Twins.nothing("adds(7, " + n + ")", RICH, x -> x.adds(7, n), Due.NONE);
        }
    }

    static void promise13APitOfAnySide() {
        for (int pit = 0; pit < 8; pit++) {
            SowingBoards x = new SowingBoards();
            RICH.accept(x);
            int had = x.pit(pit);
            Due.same("adds(" + pit + ", 2)", x.adds(pit, 2), had + 2);
            Due.same("pit(" + pit + ")", x.pit(pit), had + 2);
            Due.same("SEEDS", x.count(3), 18);
            Due.same("TURN", x.count(1), 1);
            Due.same("MOVES", x.count(2), 3);
            Due.row("the ROW", x, 1, 7, 0);
        }
    }

    static void promise13NoSuchPitIsRefused() {
        for (int pit : new int[] {MIN, -1, 8, 9, 12, 50, MAX}) {
            Twins.nothing("adds(" + pit + ", 1)", RICH, x -> x.adds(pit, 1), Due.NONE);
        }
    }

    /** 100 SEEDS in PITS, 98 in the STORE of a side, 2 in that of the other one, by LAWS c. */
    private static void almostFull(SowingBoards x, int side) {
        RICH.accept(x);
        x.forget();
        x.heard(3, 0);
        Due.board(x, "20000");
        Due.laws(x, "c");
        if (side == 1) {
            x.passes();
        }
        int other = 3 - 2 * side;
        for (int i = 0; i < 9; i++) {
            x.adds(2 * side, 1);
            x.adds(2 - 2 * side, 9);
            x.moves(0);
            x.passes();
        }
        x.adds(2 * side, 1);
        x.adds(2 - 2 * side, 7);
        x.moves(0);
        x.adds(2 - 2 * side, 1);
        x.adds(2 * side, 1);
        x.moves(0);
        for (int i = 0; i < 11; i++) {
            x.adds(other, 9);
        }
        x.keep(0);
        x.keep(1);
        x.adds(other, 1);
        Due.text(x, "21234");
    }

    static void promise13TwoHundredAreTaken() {
        for (int side = 0; side < 2; side++) {
            SowingBoards x = new SowingBoards();
            almostFull(x, side);
            Due.stores("the STORES count", x, side == 0 ? 98 : 2, side == 0 ? 2 : 98);
            Due.same("SEEDS in PITS", x.count(3), 100);
            Due.same("undo of the last adds", x.undo(), 11);
            Due.same("199 and 1", x.adds(0, 1) > 0, true);
            Due.same("SEEDS in PITS", x.count(3), 100);
        }
    }

    static void promise13Above200IsRefused() {
        for (int side = 0; side < 2; side++) {
            int of = side;
            for (int n = 1; n <= 9; n++) {
                int more = n;
                Twins.nothing("200 and " + n, x -> almostFull(x, of), x -> x.adds(0, more), Due.NOTHING);
            }
            for (int n = 2; n <= 9; n++) {
                int more = n;
                Twins.nothing("199 and " + n, x -> {
                    almostFull(x, of);
                    x.undo();
                }, x -> x.adds(0, more), Due.NOTHING);
            }
        }
    }

    static void promise13NoneComesAheadOfAbove200() {
        for (int n : new int[] {0, 10}) {
            Twins.nothing("200, adds(0, " + n + ")", x -> almostFull(x, 0), x -> x.adds(0, n), Due.NONE);
        }
        Twins.nothing("200, adds(4, 1)", x -> almostFull(x, 0), x -> x.adds(4, 1), Due.NONE);
        Twins.nothing("200, adds(-1, 1)", x -> almostFull(x, 0), x -> x.adds(-1, 1), Due.NONE);
    }

    static void promise13AboveBySheets() {
        SowingBoards x = new SowingBoards();
        Due.board(x, "20000");
        Due.laws(x, "c");
        for (int i = 0; i < 20; i++) {
            x.adds(0, 1);
            x.adds(2, 9);
            x.moves(0);
            x.passes();
        }
        Due.stores("all in the STORE", x, 200, 0);
        Due.same("200 and 1", x.adds(0, 1), Due.NOTHING);
        Due.same("a sheet is not refused", x.sheet(2, 4, 9, 0), 36);
        Due.same("236 and 1", x.adds(0, 1), Due.NOTHING);
        Due.pits("236", x, 9, 9, 9, 9);
    }

    // ---- promise 14

    static void promise14AnEmptyTextIsNoActs() {
        SowingBoards x = new SowingBoards();
        RICH.accept(x);
        x.end(0);
        Due.same("no ACT", x.game(), 0);
        Due.row("no ACT", x, 0, 1);
        Due.same("nothing to undo", x.count(8), 4);
    }

    static void promise14SixtyActsAreTaken() {
        SowingBoards x = new SowingBoards();
        Due.same("59", Due.game(x, Due.times("/", 59)), 59);
        Due.row("59", x, 0, 1);
        Due.same("60", Due.game(x, Due.times("/", 60)), 60);
        Due.row("60", x, 0, 1);
        Due.same("as one each", x.count(8), 2);
        x = circle();
        Due.same("60 MOVES", Due.game(x, Due.times("*", 60)), 60);
        Due.same("60 MOVES", x.count(2), 60);
    }

    static void promise14MoreThan60AreToldAt60() {
        wrongGame(Due.times("/", 61), 60);
        wrongGame(Due.times("/", 80), 60);
        wrongGame(Due.times("/", 60) + "x", 60);
        wrongGame(Due.times("*", 61), 60);
    }

    static void promise14AWrongSignAheadOf60IsToldFirst() {
        wrongGame(Due.times("/", 59) + "x", 59);
        wrongGame(Due.times("/", 59) + "x/", 59);
        wrongGame("x" + Due.times("/", 60), 0);
    }

    static void promise14EachSign() {
        for (char sign = 0; sign < 256; sign++) {
            boolean act = "012345*/".indexOf(sign) >= 0;
            if (act) {
                SowingBoards x = Sown.board("", 0, Due.counted(12, 1));
                Due.same("sign " + (int) sign, Due.game(x, "" + sign), 1);
                Due.row("sign " + (int) sign, x, 0, 1);
            } else {
                wrongGame("" + sign, 0);
                wrongGame("/" + sign + "/", 1);
            }
        }
    }

    static void promise14NothingIsDoneThen() {
        wrongGame("0*/x", 3);
        wrongGame("/////6", 5);
    }

    private static void wrongGame(String game, int place) {
        Twins.textAlone("game " + game, x -> {
            RICH.accept(x);
            Due.text(x, game);
        }, x -> x.game(), -1 - place);
    }

    static void promise14TillOneCantBeDone() {
        // By PIT 1 it is 0 0 1 1 and 1; by PIT 0 of side 1 0 0 0 2.
        SowingBoards x = Due.made("20201", "s");
        Due.same("PIT 0 is empty", Due.game(x, "1000"), 2);
        Due.row("PIT 0 is empty", x, 1, 0);
        Due.same("MOVES", x.count(2), 2);
        Due.pits("two were done", x, 0, 0, 0, 2);
        Due.same("one to undo", x.count(8), 1);
    }

    static void promise14TheFirstCantBeDone() {
        for (String game : new String[] {"3", "3*/", "4", "5", "5////"}) {
            SowingBoards x = new SowingBoards();
            RICH.accept(x);
            Due.same("game " + game, Due.game(x, game), 0);
            Due.row("game " + game, x, 1, 1);
            Due.same("nothing to undo", x.count(8), 4);
            Due.same("MOVES", x.count(2), 3);
        }
    }

    static void promise14APitThatIsNotThereCantBeDone() {
        for (int c = 2; c <= 6; c++) {
            for (int p = 0; p <= 5; p++) {
                SowingBoards x = Sown.board("", 0, Due.counted(2 * c, 1));
                Due.same("PIT " + p + " of " + c, Due.game(x, "" + p), p < c ? 1 : 0);
                Due.row("PIT " + p + " of " + c, x, p < c ? 0 : 1, p < c ? 1 : 0);
            }
        }
    }

    static void promise14AStarCantBeDoneIfItIsOver() {
        SowingBoards x = new SowingBoards();
        OVER.accept(x);
        Due.same("over", Due.game(x, "*"), 0);
        Due.row("over", x, 1, 1);
        Due.same("nothing to undo", x.count(8), 4);
        x = Due.made("21100", "scx");
        Due.same("over behind two", Due.game(x, "****"), 2);
        Due.row("over behind two", x, 1, 1);
    }

    static void promise14TheLastIsDoneToo() {
        SowingBoards x = Due.made("21100", "scx");
        Due.same("two of two", Due.game(x, "**"), 2);
        Due.row("two of two", x, 0, 1);
    }

    static void promise14PassesCanAlwaysBeDone() {
        SowingBoards x = new SowingBoards();
        OVER.accept(x);
        Due.same("over", Due.game(x, "///"), 3);
        Due.row("over", x, 0, 0);
        Due.same("MOVES stay", x.count(2), 3);
    }

    // ---- promise 15

    static void promise15RefusedIfThereIsNone() {
        Twins.nothing("undo()", x -> Due.board(x, "21234"), x -> x.undo(), Due.NONE);
        Twins.nothing("undo()", x -> {
            RICH.accept(x);
            x.undo();
            x.undo();
            x.undo();
            x.undo();
        }, x -> x.undo(), Due.NONE);
    }

    static void promise15TheLastIsUndone() {
        SowingBoards x = new SowingBoards();
        RICH.accept(x);
        for (int left = 3; left >= 0; left--) {
            Due.same("undo()", x.undo(), left);
            Due.same("left", x.count(8), left);
        }
        Due.pits("as behind again()", x, 2, 1, 0, 3, 4, 0, 4, 3);
        Due.stores("as behind again()", x, 0, 1);
        Due.same("TURN", x.count(1), 1);
        Due.same("MOVES", x.count(2), 1);
    }

    static void promise15TwelveAreKept() {
        SowingBoards x = new SowingBoards();
        for (int i = 1; i <= 12; i++) {
            x.adds(0, 1);
            Due.same("can be undone", x.count(8), i);
        }
        for (int i = 11; i >= 0; i--) {
            Due.same("undo()", x.undo(), i);
            Due.same("pit(0)", x.pit(0), 3 + i);
        }
        Due.same("undo()", x.undo(), Due.NONE);
    }

    static void promise15OfMoreThan12TheLatestOnes() {
        for (int more = 1; more <= 13; more++) {
            SowingBoards x = new SowingBoards();
            for (int i = 0; i < 12 + more; i++) {
                x.adds(0, 1);
            }
            Due.same("can be undone", x.count(8), 12);
            for (int i = 11; i >= 0; i--) {
                Due.same("undo()", x.undo(), i);
                Due.same("pit(0)", x.pit(0), 3 + more + i);
            }
            Due.same("the oldest ones are gone", x.undo(), Due.NONE);
            Due.same("pit(0)", x.pit(0), 3 + more);
        }
    }

    static void promise15UndoneOnesMakeRoom() {
        SowingBoards x = new SowingBoards();
        for (int i = 0; i < 12; i++) {
            x.adds(0, 1);
        }
        x.undo();
        x.undo();
        x.adds(1, 1);
        Due.same("can be undone", x.count(8), 11);
        Due.same("undo()", x.undo(), 10);
        Due.pits("the latest", x, 13, 3, 3, 3, 3, 3);
        Due.same("undo()", x.undo(), 9);
        Due.pits("the one ahead of it", x, 12, 3, 3, 3, 3, 3);
    }

    static void promise15EachOfThemIsUndone() {
        undone("moves", x -> x.moves(0));
        undone("plays", x -> x.plays(5));
        undone("passes", x -> x.passes());
        undone("adds", x -> x.adds(3, 9));
        undone("game", x -> Due.game(x, "0/*"));
    }

    /** The call and undo() leave all as it was, but for the ROW and THE TEXT. */
    private static void undone(String call, Consumer<SowingBoards> one) {
        Twins.anyRowAlone(call, x -> {
            RICH.accept(x);
            x.end(0);
        }, x -> {
            one.accept(x);
            Due.same("can be undone", x.count(8), 5);
            return x.undo();
        });
    }

    static void promise15SuchAsWereNotDoneAreNotKept() {
        SowingBoards x = new SowingBoards();
        OVER.accept(x);
        x.moves(0);
        x.moves(4);
        x.plays(1);
        x.plays(0);
        x.adds(8, 1);
        x.adds(0, 10);
        Due.game(x, "0");
        Due.game(x, "*");
        Due.game(x, "");
        Due.game(x, "/x");
        Due.same("can be undone", x.count(8), 4);
    }

    static void promise15AGameOfOneActOrMoreIsUndoneAsOne() {
        SowingBoards x = new SowingBoards();
        Due.game(x, "0");
        Due.same("one ACT", x.count(8), 1);
        Due.game(x, "/*/");
        Due.same("three ACTS", x.count(8), 2);
        Due.game(x, "/5");
        Due.same("one ACT of two", x.count(8), 3);
        Due.same("undo()", x.undo(), 2);
        Due.same("undo()", x.undo(), 1);
        Due.same("MOVES", x.count(2), 1);
        Due.same("undo()", x.undo(), 0);
        Due.pits("all", x, 3, 3, 3, 3, 3, 3);
    }

    static void promise15TheRowStays() {
        SowingBoards x = new SowingBoards();
        RICH.accept(x);
        x.undo();
        Due.row("undo()", x, 1, 7, 0);
    }

    static void promise15BoardForgetsThem() {
        SowingBoards x = new SowingBoards();
        RICH.accept(x);
        Due.same("board()", x.board(), 10);
        Due.same("can be undone", x.count(8), 0);
        Due.same("undo()", x.undo(), Due.NONE);
    }

    static void promise15ABoardThatIsRefusedDoesNotForgetThem() {
        SowingBoards x = new SowingBoards();
        RICH.accept(x);
        Due.same("board()", Due.board(x, "2123"), -5);
        Due.same("can be undone", x.count(8), 4);
        Due.same("undo()", x.undo(), 3);
    }

    static void promise15AgainForgetsThem() {
        SowingBoards x = new SowingBoards();
        RICH.accept(x);
        Due.same("again(0)", x.again(0), true);
        Due.same("can be undone", x.count(8), 0);
        Due.same("undo()", x.undo(), Due.NONE);
    }

    static void promise15AnAgainThatIsRefusedDoesNotForgetThem() {
        SowingBoards x = new SowingBoards();
        x.passes();
        Due.same("again(0)", x.again(0), false);
        Due.same("again(2)", x.again(2), false);
        Due.same("can be undone", x.count(8), 1);
        Due.same("undo()", x.undo(), 0);
    }
}
