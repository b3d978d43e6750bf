import java.util.function.Consumer;
import java.util.function.ToLongFunction;

/** Promises 29 to 32. */
public final class EdgesByTheRuleTest {
    private static final int MIN = Integer.MIN_VALUE;
    private static final int MAX = Integer.MAX_VALUE;
    private static final Consumer<SowingBoards> RICH = Twins::rich;
    private static final Consumer<SowingBoards> OVER = Twins::over;

    public static void main(String[] args) {
        Edges.run(EdgesByTheRuleTest.class);
    }

    private static SowingBoards ruled(String board, String laws, String rule) {
        SowingBoards x = Due.made(board, laws);
        Due.same("rule " + rule, Due.rule(x, rule), 0);
        return x;
    }

    /** Without LAWS two SEEDS go round for ever: 1 0 0 1, 0 1 0 1, 1 1 0 0, 1 0 1 0 and anew. */
    private static SowingBoards circle() {
        return ruled("21001", "", "p");
    }

    /** On a board with a ROW that was told and all else that can be changed, the call tells of none and changes nothing. */
    private static void nothing(String call, String board, String laws, String rule, ToLongFunction<SowingBoards> one) {
        Twins.nothing(call + " on " + board, x -> {
            RICH.accept(x);
            Due.board(x, board);
            Due.laws(x, laws);
            Due.rule(x, rule);
            x.keep(0);
            x.passes();
            x.keep(1);
            x.passes();
            x.reach(0);
            Due.text(x, "21234");
        }, one, Due.NOTHING);
    }

    /** How many MOVES it takes by plays(), till what is looked for is so: at most 180. */
    private static int played(SowingBoards x, ToLongFunction<SowingBoards> so) {
        for (int n = 0; n <= 180; n++) {
            if (so.applyAsLong(x) == 1) {
                return n;
            }
            if (x.plays(1) != 1) {
                return -1;
            }
        }
        return -1;
    }

    // ---- promise 29

    static void promise29NoMoveIfItIsEmptyNow() {
        Twins.rowAlone("when(3)", RICH, x -> x.when(3), 0, 1, 3);
        Twins.rowAlone("over, when(0)", OVER, x -> x.when(0), 0, 1, 3);
        Twins.rowAlone("over, when(7)", OVER, x -> x.when(7), 0, 1, 3);
    }

    static void promise29OneMove() {
        SowingBoards x = Due.made("21100", "scx");
        Due.same("when(1)", x.when(1), 1);
        Due.row("both STORES then", x, 1, 0);
        x = Sown.board("s", 1, 1, 0, 0, 1);
        Due.same("when(3)", x.when(3), 1);
        Due.row("both STORES then", x, 0, 1);
    }

    static void promise29SixtyMovesAreTheMost() {
        SowingBoards x = ruled("6781522166671", "sc", "-n");
        Due.same("when(7)", x.when(7), 60);
        Due.row("both STORES then", x, 22, 18);
        Due.same("by plays()", played(x, y -> y.pit(7) == 0 ? 1 : 0), 60);
        Due.stores("by plays()", x, 22, 18);
    }

    static void promise29BehindMoreThan60IsNone() {
        nothing("when(5)", "6626726011143", "", "", x -> x.when(5));
        nothing("when(6)", "6222222222222", "", "p", x -> x.when(6));
        SowingBoards x = ruled("6626726011143", "", "");
        Due.same("by plays()", played(x, y -> y.pit(5) == 0 ? 1 : 0), 61);
    }

    static void promise29BehindNoneAsItIsOverFirst() {
        nothing("when(2)", "20011", "", "p", x -> x.when(2));
        // Behind one MOVE it is over, with 2 SEEDS in PIT 1.
        nothing("when(1)", "21100", "", "", x -> x.when(1));
    }

    static void promise29FirstThatItIsEmpty() {
        SowingBoards x = circle();
        Due.same("when(0)", x.when(0), 1);
        Due.same("when(3)", x.when(3), 2);
        Due.same("when(1)", x.when(1), 0);
    }

    static void promise29NoSuchPitIsRefused() {
        for (int pit : new int[] {MIN, -1, 8, 9, 12, 50, MAX}) {
            Twins.nothing("when(" + pit + ")", RICH, x -> x.when(pit), Due.NONE);
            Twins.nothing("over, when(" + pit + ")", OVER, x -> x.when(pit), Due.NONE);
        }
    }

    static void promise29TheLastPit() {
        for (int c = 2; c <= 6; c++) {
            int[] seeds = new int[2 * c];
            seeds[2 * c - 1] = 1;
            SowingBoards x = Sown.board("s", 1, seeds);
            Due.same("the last of " + 2 * c, x.when(2 * c - 1), 1);
            Due.same("one behind it", x.when(2 * c), Due.NONE);
        }
    }

    // ---- promise 30

    static void promise30NoMoveIfItIsOverNow() {
        Twins.rowAlone("all empty", OVER, x -> x.ends(), 0, 1, 3);
        SowingBoards x = Sown.board("", 0, 0, 0, 3, 4);
        Due.same("SEEDS of side 1", x.ends(), 0);
        Due.row("SEEDS of side 1", x, 0, 7);
    }

    static void promise30StoreAndSeedsInThePitsOfEachSide() {
        SowingBoards x = Sown.board("s", 0, 1, 1, 0, 0);
        Due.same("PIT 1, then over", x.ends(), 1);
        x = Sown.board("sx", 1, 0, 3, 0, 1);
        Due.same("PIT 1 of side 1, then over", x.ends(), 1);
        Due.row("PIT 1 of side 1, then over", x, 3, 1);
    }

    static void promise30NinetyNineMovesAreTheMost() {
        SowingBoards x = ruled("480853176", "t", "-n");
        Due.same("ends()", x.ends(), 99);
        Due.same("by plays()", x.plays(60), 60);
        Due.same("by plays()", x.plays(60), 39);
    }

    static void promise30BehindMoreThan99IsNone() {
        nothing("ends()", "6342424041032", "c", "n", x -> x.ends());
        SowingBoards x = ruled("6342424041032", "c", "n");
        Due.same("by plays()", x.plays(60), 60);
        Due.same("by plays()", x.plays(60), 40);
        Due.same("over", x.count(4), 1);
    }

    static void promise30Never() {
        nothing("ends()", "21001", "", "p", x -> x.ends());
    }

    // ---- promise 31

    static void promise31SixtyMovesAreTheMost() {
        SowingBoards x = ruled("401221111", "", "p");
        Due.same("round()", x.round(), 60);
        Due.row("behind 24 it was so", x, 24);
    }

    static void promise31BehindMoreThan60IsNone() {
        nothing("round()", "420211012", "rk", "p-n", x -> x.round());
        SowingBoards x = ruled("420211012", "rk", "p-n");
        x.plays(1);
        Due.same("a MOVE later it is 60", x.round(), 60);
        Due.row("a MOVE later it is 60", x, 6);
    }

    static void promise31BehindNoneIsFewer() {
        SowingBoards x = circle();
        Due.same("round()", x.round(), 4);
        Due.row("as it is now", x, 0);
    }

    static void promise31BehindOneIsFewer() {
        SowingBoards x = ruled("22000", "", "p");
        Due.same("round()", x.round(), 5);
        Due.row("behind one it was so", x, 1);
    }

    static void promise31WhatWasAskedAheadDoesNotMatter() {
        SowingBoards x = circle();
        for (int i = 0; i < 8; i++) {
            Due.same("round()", x.round(), 4);
            Due.row("round()", x, 0);
            Due.same("once more", x.round(), 4);
            Due.row("once more", x, 0);
            x.reach(i % 4);
            Due.same("behind reach()", x.round(), 4);
            Due.row("behind reach()", x, 0);
            x.plays(1);
        }
    }

    static void promise31OverFirstIsNone() {
        nothing("over now, round()", "20011", "", "p", x -> x.round());
        nothing("over behind two, round()", "21100", "sx", "", x -> x.round());
        nothing("all empty, round()", "20000", "", "", x -> x.round());
    }

    static void promise31PositionsDifferByTurn() {
        // 2 0 1 1 (side 1), 0 1 2 1, 1 1 0 2 (side 1), 2 0 1 1 (side 0), 1 1 0 2 (side 1).
        SowingBoards x = ruled("22200", "r", "p");
        Due.same("round()", x.round(), 5);
        Due.row("round()", x, 3);
    }

    static void promise31TwoMoves() {
        SowingBoards x = ruled("21100", "r", "");
        Due.same("round()", x.round(), 2);
        Due.row("round()", x, 0);
    }

    // ---- promise 32

    static void promise32NoMoveIsTheLeast() {
        Twins.rowAlone("fullest(0)", RICH, x -> x.fullest(0), 4, 5);
        Twins.rowAlone("over, fullest(0)", OVER, x -> x.fullest(0), 0, 0);
    }

    static void promise32SixtyMovesAreTheMost() {
        SowingBoards x = circle();
        Due.same("fullest(57)", x.fullest(57), 1);
        Due.same("fullest(58)", x.fullest(58), 0);
        Due.same("fullest(60)", x.fullest(60), 0);
        x.plays(1);
        Due.same("fullest(59), as 60 ahead", x.fullest(59), 0);
        Due.same("fullest(60), as 61 ahead", x.fullest(60), 1);
    }

    static void promise32AnotherNumberIsRefused() {
        for (int n : new int[] {MIN, -1, 61, 62, MAX}) {
            Twins.nothing("fullest(" + n + ")", RICH, x -> x.fullest(n), Due.NONE);
            Twins.nothing("over, fullest(" + n + ")", OVER, x -> x.fullest(n), Due.NONE);
        }
    }

    static void promise32FewerIfItIsOver() {
        for (int n = 2; n <= 60; n++) {
            SowingBoards x = Due.made("21100", "scx");
            Due.same("fullest(" + n + ")", x.fullest(n), 1);
            Due.row("fullest(" + n + ")", x, 1);
        }
        SowingBoards x = Sown.board("", 0, 0, 0, 3, 4);
        Due.same("over", x.fullest(60), 3);
        Due.row("over", x, 4);
    }

    static void promise32OfEqualOnesTheFirst() {
        for (int pit = 0; pit < 12; pit++) {
            int[] seeds = new int[12];
            for (int i = pit; i < 12; i++) {
                seeds[i] = 2;
            }
            SowingBoards x = Sown.board("", 0, seeds);
            Due.same("from PIT " + pit + " on", x.fullest(0), pit);
            Due.row("from PIT " + pit + " on", x, 2);
        }
    }

    static void promise32TheLastPit() {
        for (int c = 2; c <= 6; c++) {
            int[] seeds = Due.counted(2 * c, 1);
            seeds[2 * c - 1] = 2;
            SowingBoards x = Sown.board("", 0, seeds);
            Due.same("the last of " + 2 * c, x.fullest(0), 2 * c - 1);
            Due.row("the last of " + 2 * c, x, 2);
        }
    }
}
