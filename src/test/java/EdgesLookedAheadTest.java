import java.util.function.Consumer;

/** Promises 25 to 28. */
public final class EdgesLookedAheadTest {
    private static final int MIN = Integer.MIN_VALUE;
    private static final int MAX = Integer.MAX_VALUE;
    private static final Consumer<SowingBoards> RICH = Twins::rich;
    private static final Consumer<SowingBoards> OVER = Twins::over;
    // By s: each side has one SEED, that comes to its STORE by its second MOVE; then it is OVER.
    private static final int[] FORCED = {0, 1, 0, 0, 1, 0};

    public static void main(String[] args) {
        Edges.run(EdgesLookedAheadTest.class);
    }

    /** The STORE of side 0 has so many SEEDS, all PITS are empty, and LAWS are others then. */
    private static SowingBoards stored(int seeds, String laws) {
        SowingBoards x = Due.made("20000", "c");
        for (int left = seeds; left > 0; left -= 10) {
            x.adds(0, 1);
            x.adds(2, Math.min(9, left - 1));
            x.moves(0);
            x.passes();
        }
        Due.laws(x, laws);
        Due.stores("the STORE", x, seeds, 0);
        return x;
    }

    // ---- promise 25

    static void promise25From0To4Moves() {
        int[] answers = {300, 300, 300, 301, 300};
        long[][] rows = {{}, {1}, {1, 1}, {1, 1, 2}, {1, 1, 2, 2}};
        for (int n = 0; n <= 4; n++) {
            SowingBoards x = Sown.board("s", 0, FORCED);
            Due.same("looks(" + n + ")", x.looks(n), answers[n]);
            Due.row("looks(" + n + ")", x, rows[n]);
        }
    }

    static void promise25AnotherNumberIsRefused() {
        for (int n : new int[] {MIN, -1, 5, 6, MAX}) {
            Twins.nothing("looks(" + n + ")", RICH, x -> x.looks(n), Due.NONE);
            Twins.nothing("over, looks(" + n + ")", OVER, x -> x.looks(n), Due.NONE);
        }
    }

    static void promise25NoMoveIfItIsOver() {
        for (int n = 0; n <= 4; n++) {
            int many = n;
            // The STORE of side 1 has 3, that of side 0 has 1.
            Twins.rowAlone("over, looks(" + n + ")", OVER, x -> x.looks(many), 302);
        }
    }

    static void promise25TillItIsOver() {
        SowingBoards x = Sown.board("sx", 0, 1, 1, 0, 0);
        for (int n = 2; n <= 4; n++) {
            Due.same("looks(" + n + ")", x.looks(n), 301);
            Due.row("looks(" + n + ")", x, 1, 0);
        }
    }

    static void promise25ByHowMuchTheStoreOfTheMoverOfNowIsMore() {
        SowingBoards x = Sown.board("s", 0, 0, 0, 2, 0, 0, 0);
        x.moves(2);
        Due.same("of side 1, that is behind", x.looks(0), 299);
        Due.same("of side 1, one MOVE", x.looks(1), 299);
        x.passes();
        Due.same("of side 0", x.looks(0), 301);
        Due.same("as far behind as can be", stored(200, "").looks(0), 500);
        x = stored(200, "");
        x.passes();
        Due.same("as far behind as can be", x.looks(4), 100);
    }

    static void promise25MoreThan300Behind() {
        SowingBoards x = Sown.farBehind();
        Due.same("300 and 0 - 310", x.looks(0), -10);
        Due.row("no MOVES", x);
        x.sheet(2, 4, 1, 0);
        Due.same("300 and 0 - 310 behind MOVES that bring nothing", x.looks(1), -10);
        Due.row("PIT 0", x, 0);
        x.passes();
        Due.same("of side 1", x.looks(0), 610);
    }

    static void promise25OfAsGoodMovesTheFirstPit() {
        SowingBoards x = Sown.board("", 0, 0, 1, 1, 0, 1, 1);
        Due.same("all are as good", x.looks(4), 300);
        Due.row("all are as good", x, 1, 1, 2, 0);
    }

    static void promise25EachSidePlaysForItsOwnStore() {
        // By PIT 2 the other side would take the 4 of PIT 0.
        SowingBoards x = Due.made("3401100", "c");
        Due.same("not PIT 2", x.looks(2), 300);
        Due.row("not PIT 2", x, 0, 0);
        // Side 1 has PIT 1 that brings nothing, and PIT 2 that brings 1.
        x = Sown.board("s", 0, 1, 0, 0, 0, 1, 1);
        Due.same("the better of two", x.looks(2), 299);
        Due.row("the better of two", x, 0, 2);
    }

    static void promise25BehindFourMovesOfSixColumns() {
        SowingBoards x = Due.made("6444444444444", "scx");
        int[] answers = {300, 301, 302, 301, 301};
        long[][] rows = {{}, {2}, {2, 3}, {2, 3, 1}, {5, 1, 0, 2}};
        for (int n = 0; n <= 4; n++) {
            Due.same("looks(" + n + ")", x.looks(n), answers[n]);
            Due.row("looks(" + n + ")", x, rows[n]);
        }
    }

    // ---- promise 26

    static void promise26From0To4Moves() {
        // PIT 1 is empty behind one MOVE and then stays so.
        int[] ways = {0, 1, 1, 1, 1};
        long[][] rows = {{}, {1}, {1, 1}, {1, 1, 2}, {1, 1, 2, 2}};
        for (int n = 0; n <= 4; n++) {
            int many = n;
            Twins.rowAlone("ways(1, " + n + ")", x -> {
                Due.board(x, "3010010");
                Due.laws(x, "s");
                x.would(1);
            }, x -> x.ways(1, many), ways[n], rows[n]);
        }
    }

    static void promise26AnotherNumberIsRefused() {
        for (int n : new int[] {MIN, -1, 5, 6, MAX}) {
            Twins.nothing("ways(0, " + n + ")", RICH, x -> x.ways(0, n), Due.NONE);
            Twins.nothing("ways(8, " + n + ")", RICH, x -> x.ways(8, n), Due.NONE);
        }
    }

    static void promise26NoSuchPitIsRefused() {
        for (int pit : new int[] {MIN, -1, 8, 9, 12, 50, MAX}) {
            for (int n = 0; n <= 4; n += 4) {
                int many = n;
                Twins.nothing("ways(" + pit + ", " + n + ")", RICH, x -> x.ways(pit, many), Due.NONE);
            }
        }
    }

    static void promise26TheFirstAndTheLastPit() {
        SowingBoards x = Sown.board("", 0, 1, 0, 0, 0, 1, 0);
        Due.same("PIT 0 behind a MOVE", x.ways(0, 1), 1);
        Due.same("PIT 5 behind a MOVE", x.ways(5, 1), 1);
        Due.same("PIT 5 behind two", x.ways(5, 2), 0);
        Due.row("PIT 5 behind two", x);
        Due.same("PIT 4 behind two", x.ways(4, 2), 1);
        Due.row("PIT 4 behind two", x, 0, 1);
    }

    static void promise26NoMoveIsOneWay() {
        Twins.rowAlone("empty now", x -> {
            Due.board(x, "20100");
            x.would(1);
        }, x -> x.ways(0, 0), 1);
        Twins.rowAlone("not empty now", x -> {
            Due.board(x, "20100");
            x.would(1);
        }, x -> x.ways(1, 0), 0);
        Twins.rowAlone("empty now, and over", OVER, x -> x.ways(0, 0), 1);
    }

    static void promise26JustSoMany() {
        // It is over behind two.
        SowingBoards x = Sown.board("sx", 0, 1, 1, 0, 0);
        Due.same("two", x.ways(0, 2), 1);
        Due.row("two", x, 1, 0);
        for (int n = 3; n <= 4; n++) {
            Due.same("no row of " + n, x.ways(0, n), 0);
            Due.row("no row of " + n, x);
        }
        for (int n = 1; n <= 4; n++) {
            int many = n;
            Twins.rowAlone("over, ways(0, " + n + ")", OVER, y -> y.ways(0, many), 0);
        }
    }

    static void promise26TheLeastRow() {
        SowingBoards x = Due.made("6543996877546", "rxt");
        int[] ways = {82, 71, 107, 86, 80, 71, 92, 110, 102, 103, 119, 91};
        long[][] rows = {{0, 0, 0, 1}, {0, 0, 0, 3}, {0, 0, 1, 1}, {0, 0, 0, 5}, {0, 0, 1, 5}, {0, 0, 0, 2},
            {0, 0, 3, 2}, {0, 0, 3, 5}, {0, 0, 0, 2}, {0, 0, 2, 1}, {0, 0, 0, 5}, {0, 0, 0, 5}};
        for (int pit = 0; pit < 12; pit++) {
            Due.same("ways(" + pit + ", 4)", x.ways(pit, 4), ways[pit]);
            Due.row("ways(" + pit + ", 4)", x, rows[pit]);
        }
    }

    static void promise26OfBothAsTurnsGo() {
        SowingBoards x = Sown.board("sx", 0, 1, 1, 1, 1);
        // By 1 TURN stays: 1 0; by 0 it is 0 2, then side 1.
        Due.same("PIT 0 behind two", x.ways(0, 2), 3);
        Due.row("PIT 0 behind two", x, 0, 0);
    }

    // ---- promise 27

    static void promise27From0To3Moves() {
        int[] positions = {1, 2, 1, 0};
        long[][] rows = {{0, 0}, {0, 1}, {1, 1}, {}};
        for (int n = 0; n <= 3; n++) {
            int many = n;
            Twins.rowAlone("reach(" + n + ")", x -> {
                Due.board(x, "21100");
                x.would(0);
            }, x -> x.reach(many), positions[n], rows[n]);
        }
        SowingBoards x = Sown.board("s", 0, FORCED);
        Due.same("three MOVES", x.reach(3), 1);
        Due.row("three MOVES", x, 1, 1);
    }

    static void promise27AnotherNumberIsRefused() {
        for (int n : new int[] {MIN, -1, 4, 5, MAX}) {
            Twins.nothing("reach(" + n + ")", RICH, x -> x.reach(n), Due.NONE);
            Twins.nothing("over, reach(" + n + ")", OVER, x -> x.reach(n), Due.NONE);
        }
    }

    static void promise27JustSoManyAndNothingToldWithout() {
        Twins.rowAlone("over, reach(0)", OVER, x -> x.reach(0), 1, 3, 3);
        for (int n = 1; n <= 3; n++) {
            int many = n;
            Twins.rowAlone("over, reach(" + n + ")", OVER, x -> x.reach(many), 0);
        }
    }

    static void promise27AllRowsLeadToAnother() {
        SowingBoards x = Due.made("6543996877546", "rxt");
        Due.same("216", x.reach(3), 216);
        Due.row("216", x, 0, 0);
    }

    static void promise27LikePositionsCountOnce() {
        SowingBoards x = Sown.board("", 0, 1, 0, 1, 0, 1, 0);
        Due.same("three of four rows", x.reach(3), 3);
        // Both lead to 1 0 1 1: the first one and the last one.
        x = Sown.board("r", 0, 1, 2, 0, 0);
        Due.same("one of two rows", x.reach(1), 1);
    }

    static void promise27WhatWasAskedAheadDoesNotMatter() {
        SowingBoards x = Sown.board("", 0, 1, 0, 1, 0, 1, 0);
        for (int i = 0; i < 4; i++) {
            Due.same("reach(3)", x.reach(3), 3);
            x.round();
            Due.same("reach(0)", x.reach(0), 1);
            x.reach(2);
        }
    }

    static void promise27PositionsDifferByTurn() {
        // Two like positions but for TURN.
        SowingBoards x = Due.made("3011201", "srckxt");
        Due.same("2", x.reach(2), 2);
        Due.row("2", x, 4, 4);
    }

    static void promise27PositionsDifferByStores() {
        SowingBoards x = Due.made("22114", "src");
        Due.same("6", x.reach(3), 6);
        Due.row("6", x, 2, 5);
    }

    static void promise27PositionsDoNotDifferByMoves() {
        // round() tells positions apart as reach() does.
        SowingBoards x = Due.made("21001", "");
        Due.rule(x, "p");
        x.plays(4);
        Due.same("MOVES", x.count(2), 4);
        Due.same("as without them", x.round(), 4);
        Due.row("as without them", x, 0);
    }

    static void promise27TheStoreOfTheMoverOfNow() {
        SowingBoards x = Sown.board("s", 1, 0, 0, 2, 0, 1, 1);
        Due.same("of side 1", x.reach(1), 2);
        Due.row("of side 1", x, 0, 1);
        x.passes();
        Due.same("of side 0", x.reach(1), 1);
        Due.row("of side 0", x, 1, 1);
        Due.same("of side 0 behind two", x.reach(2), 3);
        Due.row("of side 0 behind two", x, 1, 1);
    }

    // ---- promise 28

    private static void luck(SowingBoards x, int n, int g, long upper, long lower) {
        Due.same("luck(" + n + ", " + g + ")", x.luck(n, g), 0);
        Due.row("luck(" + n + ", " + g + ")", x, upper, lower);
    }

    static void promise28From0To4Moves() {
        SowingBoards x = Sown.board("s", 0, FORCED);
        for (int n = 0; n <= 4; n++) {
            luck(x, n, 1, n < 3 ? 0 : 1, 1);
        }
        x = Due.made("6444444444444", "scx");
        luck(x, 3, 1, 967, 1080);
        luck(x, 3, 3, 7, 180);
        luck(x, 4, 1, 2539, 2700);
        luck(x, 4, 3, 1687, 10800);
        luck(x, 4, 9, 1, 720);
    }

    static void promise28AnotherNumberOfMovesIsRefused() {
        for (int n : new int[] {MIN, -1, 5, 6, MAX}) {
            Twins.nothing("luck(" + n + ", 1)", RICH, x -> x.luck(n, 1), Due.NONE);
            Twins.nothing("luck(" + n + ", 109)", RICH, x -> x.luck(n, 109), Due.NONE);
        }
    }

    static void promise28AnotherNumberOfSeedsIsRefused() {
        for (int g : new int[] {MIN, -1, 109, 110, MAX}) {
            for (int n = 0; n <= 4; n += 4) {
                int many = n;
                Twins.nothing("luck(" + n + ", " + g + ")", RICH, x -> x.luck(many, g), Due.NONE);
                Twins.nothing("over, luck(" + n + ", " + g + ")", OVER, x -> x.luck(many, g), Due.NONE);
            }
        }
    }

    static void promise28From0To108Seeds() {
        luck(stored(0, ""), 0, 0, 1, 1);
        luck(stored(0, ""), 0, 1, 0, 1);
        luck(stored(107, ""), 0, 107, 1, 1);
        luck(stored(107, ""), 0, 108, 0, 1);
        luck(stored(108, ""), 0, 108, 1, 1);
        luck(stored(108, ""), 4, 108, 1, 1);
        luck(stored(109, ""), 0, 108, 1, 1);
    }

    static void promise28SoManyOrMore() {
        SowingBoards x = Sown.board("s", 0, 1, 0, 1, 0, 0, 0);
        luck(x, 1, 0, 1, 1);
        luck(x, 1, 1, 1, 2);
        luck(x, 1, 2, 0, 1);
    }

    static void promise28FewerIfItIsOver() {
        SowingBoards x = Sown.board("s", 0, 1, 1, 0, 0);
        for (int n = 1; n <= 4; n++) {
            luck(x, n, 1, 1, 2);
        }
        for (int n = 0; n <= 4; n++) {
            int many = n;
            Twins.rowAlone("over, luck(" + n + ", 1)", OVER, y -> y.luck(many, 1), 0, 1, 1);
            Twins.rowAlone("over, luck(" + n + ", 2)", OVER, y -> y.luck(many, 2), 0, 0, 1);
        }
    }

    static void promise28TheStoreOfSide0ThoughTheMoverIsSide1() {
        SowingBoards x = Sown.board("s", 1, 0, 0, 1, 0, 0, 1);
        luck(x, 1, 1, 0, 1);
        luck(x, 2, 1, 1, 1);
    }

    static void promise28EachPitThatIsNotEmptyAsLikely() {
        for (int full = 1; full <= 6; full++) {
            int[] seeds = new int[12];
            for (int pit = 6 - full; pit < 6; pit++) {
                seeds[pit] = 1;
            }
            luck(Sown.board("s", 0, seeds), 1, 1, 1, full);
        }
        SowingBoards x = Due.made("51234512345", "sxc");
        luck(x, 3, 1, 213, 250);
        luck(x, 4, 3, 101, 750);
        luck(x, 4, 5, 181, 3000);
    }
}
