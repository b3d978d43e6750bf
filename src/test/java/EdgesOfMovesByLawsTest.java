/** Term 1: the edges of the board, of a MOVE by LAWS, and of OVER. */
public final class EdgesOfMovesByLawsTest {
    public static void main(String[] args) {
        Edges.run(EdgesOfMovesByLawsTest.class);
    }

    /** PITS of a board that are all empty but for one. */
    private static int[] only(int columns, int pit, int seeds) {
        int[] all = new int[2 * columns];
        all[pit] = seeds;
        return all;
    }

    /** As many PITS of 1 SEED from a PIT on, going round; the others have 0. */
    private static int[] ones(int columns, int from, int many) {
        int[] all = new int[2 * columns];
        for (int i = 0; i < many; i++) {
            all[(from + i) % all.length] = 1;
        }
        return all;
    }

    // ---- the board

    static void term1BehindTheLastPitComesPit0() {
        for (int c = 2; c <= 6; c++) {
            SowingBoards x = Sown.board("", 1, only(c, 2 * c - 1, 1));
            Due.same("the last PIT of all", x.moves(c - 1), 0);
            Due.row("the last PIT of all", x, 1, 0, 0);
            Due.pits("the last PIT of all", x, only(c, 0, 1));
            Sown.by("", c - 1, only(c, c - 1, c + 1)).gives(0, 1, 0, ones(c, c, c + 1));
        }
    }

    static void term1BehindTheLastPitOfSide0ComesTheFirstOfSide1() {
        for (int c = 2; c <= 6; c++) {
            Sown.by("", c - 1, only(c, c - 1, 1)).gives(0, 1, c, only(c, c, 1));
        }
    }

    static void term1TheStoreLiesBehindTheLastPitOfItsSide() {
        for (int c = 2; c <= 6; c++) {
            Sown.by("s", c - 1, only(c, c - 1, 1)).gives(1, 1, Due.STORE, new int[2 * c]);
            Sown.by("s", c - 1, only(c, c - 1, 2)).gives(1, 1, c, only(c, c, 1));
            Sown.by("s", c - 2, only(c, c - 2, 1)).gives(0, 1, c - 1, only(c, c - 1, 1));
            Sown.by("s", c - 2, only(c, c - 2, 2)).gives(1, 1, Due.STORE, only(c, c - 1, 1));
        }
    }

    static void term1NeverTheStoreOfTheOtherSide() {
        for (int c = 2; c <= 6; c++) {
            Sown.by("s", c - 1, only(c, c - 1, c + 1)).gives(1, 1, 2 * c - 1, ones(c, c, c));
            Sown.by("s", c - 1, only(c, c - 1, c + 2)).gives(1, 1, 0, ones(c, c, c + 1));
        }
    }

    static void term1WithoutSNoStoreIsSown() {
        for (int c = 2; c <= 6; c++) {
            Sown.by("", 0, only(c, 0, 2 * c)).gives(0, 1, 0, ones(c, 0, 2 * c));
        }
    }

    static void term1OppositeOfPitIIsTwiceTheColumnsLess1LessI() {
        for (int c = 2; c <= 6; c++) {
            for (int pit = 0; pit < 2 * c; pit++) {
                SowingBoards x = Sown.board("", 0, only(c, pit, 1));
                x.heard(2, 1);
                Due.same("opposite of PIT " + pit + " of " + 2 * c, x.fits(), 1 << 2 * c - 1 - pit);
            }
        }
    }

    static void term1TheMoverIsTheSideWhoseTurnItIs() {
        SowingBoards x = Sown.board("", 0, 1, 0, 0, 1, 0, 0);
        Due.same("PIT 0 of side 0", x.moves(0), 0);
        Due.pits("PIT 0 of side 0", x, 0, 1, 0, 1, 0, 0);
        Due.same("PIT 0 of side 1", x.moves(0), 0);
        Due.pits("PIT 0 of side 1", x, 0, 1, 0, 0, 1, 0);
    }

    // ---- (1) sown, left out

    static void term1OneSeedIsTheLeastThatIsLifted() {
        Sown.by("", 0, 1, 0, 0, 0).gives(0, 1, 1, 0, 1, 0, 0);
        Due.same("none", Sown.board("", 0, 0, 1, 1, 1).moves(0), Due.NOTHING);
    }

    static void term1WithoutKTheLiftedPitIsSownToo() {
        for (int c = 2; c <= 6; c++) {
            Sown.by("", 0, only(c, 0, 2 * c - 1)).gives(0, 1, 2 * c - 1, ones(c, 1, 2 * c - 1));
            Sown.by("", 0, only(c, 0, 2 * c)).gives(0, 1, 0, ones(c, 0, 2 * c));
            Sown.by("s", 0, only(c, 0, 2 * c)).gives(1, 1, 2 * c - 1, ones(c, 1, 2 * c - 1));
            Sown.by("s", 0, only(c, 0, 2 * c + 1)).gives(1, 1, 0, ones(c, 0, 2 * c));
        }
    }

    static void term1ByKTheLiftedPitIsLeftOut() {
        for (int c = 2; c <= 6; c++) {
            int[] then = ones(c, 1, 2 * c - 1);
            Sown.by("k", 0, only(c, 0, 2 * c - 1)).gives(0, 1, 2 * c - 1, then);
            Sown.by("sk", 0, only(c, 0, 2 * c)).gives(1, 1, 2 * c - 1, then);
            then[1] = 2;
            Sown.by("k", 0, only(c, 0, 2 * c)).gives(0, 1, 1, then);
            Sown.by("sk", 0, only(c, 0, 2 * c + 1)).gives(1, 1, 1, then);
        }
    }

    static void term1ByKTheLastPitIsLeftOutAheadOfTheStore() {
        // Behind PITS 2, 3, 0 comes the STORE again, though PIT 1 lies between.
        Sown.by("sk", 1, 0, 5, 0, 0).gives(2, 1, Due.STORE, 1, 0, 1, 1);
        Sown.by("sk", 1, 0, 6, 0, 0).gives(2, 1, 2, 1, 0, 2, 1);
    }

    static void term1ByKEachRoundLeavesItOut() {
        Sown.by("k", 0, 9, 0, 0, 0).gives(0, 1, 3, 0, 3, 3, 3);
        Sown.by("k", 0, 10, 0, 0, 0).gives(0, 1, 1, 0, 4, 3, 3);
    }

    // ---- (2) LAPS

    static void term1ByRALapMoreFromAPitThatHadSeeds() {
        Sown.by("r", 0, 1, 1, 0, 0).gives(0, 2, 3, 0, 0, 1, 1);
        Sown.by("", 0, 1, 1, 0, 0).gives(0, 1, 1, 0, 2, 0, 0);
    }

    static void term1ByRNoLapMoreFromAPitThatWasEmpty() {
        Sown.by("r", 0, 1, 0, 1, 1).gives(0, 1, 1, 0, 1, 1, 1);
    }

    static void term1ByRNoLapMoreFromTheStore() {
        SowingBoards x = Sown.board("sr", 0, 0, 1, 0, 0);
        x.moves(1);
        x.adds(1, 1);
        x.passes();
        Due.same("the STORE had 1", x.moves(1), 1);
        Due.row("the STORE had 1", x, 1, Due.STORE, 1);
    }

    static void term1ByRTheLiftedPitHadNone() {
        // The last one falls in the PIT that was lifted: that is empty then.
        Sown.by("r", 0, 4, 0, 0, 0).gives(0, 1, 0, 1, 1, 1, 1);
    }

    static void term1ByRAPitThatGotItsSeedInThisLapHadSome() {
        // 0 5 0 0 0 round to PIT 1 again: 1 2 1 1, then 1 0 2 2, then 2 1 2 0.
        Sown.by("r", 0, 5, 0, 0, 0).gives(0, 3, 1, 2, 1, 2, 0);
    }

    static void term1ByRAndKThePitOfThisLapAloneIsLeftOut() {
        // 0 4 0 0, then 1 0 2 1, then 2 0 0 2 (PIT 0 is sown), then 0 1 1 2.
        Sown.by("rk", 0, 1, 3, 0, 0).gives(0, 4, 2, 0, 1, 1, 2);
    }

    static void term1ByRTheLapsOfBothSidesAreSown() {
        // The second LAP is of a PIT of the other side, the STORE is that of THE MOVER.
        Sown.by("sr", 1, 0, 2, 1, 0).gives(1, 2, 0, 1, 0, 0, 1);
        Sown.by("sr", 1, 0, 2, 3, 0).gives(2, 2, Due.STORE, 1, 1, 0, 1);
    }

    static void term1ThereAre50LapsAtMost() {
        Sown.by("r", 0, 8, 6, 7, 3).gives(0, 49, 0, 1, 14, 5, 4);
        Sown.by("r", 0, 7, 5, 6, 6).gives(0, 50, 3, 6, 0, 17, 1);
        // The fifty-first LAP would have come to 1 9 0 9.
        Sown.by("r", 0, 9, 0, 9, 1).gives(0, 50, 2, 0, 9, 2, 8);
        // Behind 8 LAPS these SEEDS lie as they did.
        Sown.by("r", 1, 1, 2, 0, 2).gives(0, 50, 2, 2, 1, 2, 0);
    }

    static void term1Behind50LapsTheLastSeedStillCaptures() {
        Sown.by("rc", 0, 2, 2, 7, 3).gives(10, 50, 1, 4, 0, 0, 0);
        Sown.by("rt", 1, 1, 2, 0, 2).gives(2, 50, 2, 2, 1, 0, 0);
    }

    // ---- (3) by c

    static void term1ByCOneSeedAndTheOppositeOnes() {
        Sown.by("c", 0, 1, 0, 0, 0, 5, 0).gives(6, 1, 1, 0, 0, 0, 0, 0, 0);
        Sown.by("c", 0, 1, 0, 0, 0, 1, 0).gives(2, 1, 1, 0, 0, 0, 0, 0, 0);
        Sown.by("", 0, 1, 0, 0, 0, 5, 0).gives(0, 1, 1, 0, 1, 0, 0, 5, 0);
    }

    static void term1ByCNothingIfThePitHas2SeedsThen() {
        Sown.by("c", 0, 1, 1, 0, 0, 5, 0).gives(0, 1, 1, 0, 2, 0, 0, 5, 0);
    }

    static void term1ByCNothingIfTheOppositePitIsEmpty() {
        Sown.by("c", 0, 1, 0, 0, 5, 0, 5).gives(0, 1, 1, 0, 1, 0, 5, 0, 5);
    }

    static void term1ByCNothingInAPitOfTheOtherSide() {
        // The first PIT of the other side, or the last one, has 1 SEED then, and so has the opposite one.
        Sown.by("c", 1, 0, 2, 0, 0, 0, 0).gives(0, 1, 3, 0, 0, 1, 1, 0, 0);
        Sown.by("c", 1, 1, 4, 0, 0, 0, 0).gives(0, 1, 5, 1, 0, 1, 1, 1, 1);
    }

    static void term1ByCInTheFirstAndTheLastPitOfTheSide() {
        Sown.by("c", 2, 0, 0, 4, 0, 0, 0).gives(2, 1, 0, 0, 0, 0, 1, 1, 0);
        Sown.by("c", 1, 0, 1, 0, 7, 0, 0).gives(8, 1, 2, 0, 0, 0, 0, 0, 0);
    }

    static void term1ByCInThePitThatWasLifted() {
        Sown.by("c", 0, 6, 0, 0, 0, 0, 0).gives(2, 1, 0, 0, 1, 1, 1, 1, 0);
    }

    static void term1ByCTheLastSeedOfAllAlone() {
        Sown.by("c", 0, 2, 0, 0, 0, 5, 5).gives(0, 1, 2, 0, 1, 1, 0, 5, 5);
        // Of two LAPS only the last one: 0 0 1 1 ahead of it.
        Sown.by("rc", 0, 1, 2, 0, 0, 0, 5).gives(0, 2, 4, 0, 0, 1, 1, 1, 5);
    }

    static void term1ByCNothingFromTheStore() {
        Sown.by("sc", 2, 0, 0, 1, 5, 0, 5).gives(1, 1, Due.STORE, 0, 0, 0, 5, 0, 5);
    }

    // ---- (4) by t

    static void term1ByT2Or3SeedsThen() {
        Sown.by("t", 2, 0, 0, 1, 0, 0, 0).gives(0, 1, 3, 0, 0, 0, 1, 0, 0);
        Sown.by("t", 2, 0, 0, 1, 1, 0, 0).gives(2, 1, 3, 0, 0, 0, 0, 0, 0);
        Sown.by("t", 2, 0, 0, 1, 2, 0, 0).gives(3, 1, 3, 0, 0, 0, 0, 0, 0);
        Sown.by("t", 2, 0, 0, 1, 3, 0, 0).gives(0, 1, 3, 0, 0, 0, 4, 0, 0);
        Sown.by("", 2, 0, 0, 1, 1, 0, 0).gives(0, 1, 3, 0, 0, 0, 2, 0, 0);
    }

    static void term1ByTThoseAheadWith2Or3Seeds() {
        Sown.by("t", 2, 0, 0, 2, 0, 1, 0).gives(2, 1, 4, 0, 0, 0, 1, 0, 0);
        Sown.by("t", 2, 0, 0, 2, 1, 1, 0).gives(4, 1, 4, 0, 0, 0, 0, 0, 0);
        Sown.by("t", 2, 0, 0, 2, 2, 1, 0).gives(5, 1, 4, 0, 0, 0, 0, 0, 0);
        Sown.by("t", 2, 0, 0, 2, 3, 1, 0).gives(2, 1, 4, 0, 0, 0, 4, 0, 0);
    }

    static void term1ByTOneByOneTillItIsNotSo() {
        Sown.by("t", 2, 0, 0, 3, 1, 1, 1).gives(6, 1, 5, 0, 0, 0, 0, 0, 0);
        Sown.by("t", 2, 0, 0, 3, 1, 0, 1).gives(2, 1, 5, 0, 0, 0, 2, 1, 0);
        Sown.by("t", 2, 0, 0, 3, 1, 3, 2).gives(3, 1, 5, 0, 0, 0, 2, 4, 0);
    }

    static void term1ByTNothingIfTheLastPitHas1Or4ThoughThoseAheadHave2() {
        Sown.by("t", 2, 0, 0, 2, 1, 0, 0).gives(0, 1, 4, 0, 0, 0, 2, 1, 0);
        Sown.by("t", 2, 0, 0, 2, 1, 3, 0).gives(0, 1, 4, 0, 0, 0, 2, 4, 0);
    }

    static void term1ByTNotThoseBehindIt() {
        Sown.by("t", 2, 0, 0, 1, 1, 2, 2).gives(2, 1, 3, 0, 0, 0, 0, 2, 2);
    }

    static void term1ByTOnlyAsLongAsTheyAreOfTheOtherSide() {
        // His own last PIT lies ahead of the first one of the other side, with 2 SEEDS.
        Sown.by("t", 1, 0, 2, 1, 1, 0, 0).gives(2, 1, 3, 0, 0, 2, 0, 0, 0);
        Sown.by("t", 1, 0, 3, 2, 1, 1, 0).gives(4, 1, 4, 0, 0, 3, 0, 0, 0);
    }

    static void term1ByTNothingInAPitOfHisOwn() {
        Sown.by("t", 0, 1, 1, 0, 2, 2, 2).gives(0, 1, 1, 0, 2, 0, 2, 2, 2);
        Sown.by("t", 2, 1, 0, 4, 1, 1, 1).gives(0, 1, 0, 2, 0, 0, 2, 2, 2);
    }

    static void term1ByTNothingFromTheStore() {
        Sown.by("st", 2, 0, 0, 1, 2, 2, 2).gives(1, 1, Due.STORE, 0, 0, 0, 2, 2, 2);
    }

    static void term1ByTTheLastPitOfTheOtherSide() {
        Sown.by("t", 0, 5, 0, 0, 0, 0, 1).gives(2, 1, 5, 0, 1, 1, 1, 1, 0);
    }

    static void term1WhatIsSownAndCapturedComesTogether() {
        Sown.by("sc", 2, 0, 0, 7, 0, 0, 0).gives(3, 1, 2, 1, 1, 0, 0, 1, 1);
        Sown.by("st", 2, 0, 0, 2, 1, 0, 0).gives(3, 1, 3, 0, 0, 0, 0, 0, 0);
        Sown.by("sct", 2, 0, 0, 2, 2, 0, 0).gives(4, 1, 3, 0, 0, 0, 0, 0, 0);
        Sown.by("sct", 0, 1, 0, 0, 0, 2, 0).gives(3, 1, 1, 0, 0, 0, 0, 0, 0);
    }

    static void term1ByTEachPitOfSixColumns() {
        Sown.by("t", 5, 0, 0, 0, 0, 0, 6, 1, 2, 1, 2, 1, 2).gives(15, 1, 11, new int[12]);
    }

    // ---- (5) TURN, MOVES, OVER

    static void term1ByXTurnStaysIfTheLastSeedFellInTheStore() {
        Sown.by("sx", 2, 0, 0, 1, 1, 0, 0).gives(1, 1, Due.STORE, 0, 0, 0, 1, 0, 0);
        Sown.by("s", 2, 0, 0, 1, 1, 0, 0).gives(1, 1, Due.STORE, 0, 0, 0, 1, 0, 0);
    }

    static void term1ByXTurnIsTheOthersIfItFellOnBehindTheStore() {
        Sown.by("sx", 2, 0, 0, 2, 1, 0, 0).gives(1, 1, 3, 0, 0, 0, 2, 0, 0);
        Sown.by("x", 2, 0, 0, 1, 1, 0, 0).gives(0, 1, 3, 0, 0, 0, 2, 0, 0);
    }

    static void term1ByXTurnGoesThoughSeedsWereCaptured() {
        Sown.by("sxc", 0, 1, 0, 0, 0, 5, 0).gives(6, 1, 1, 0, 0, 0, 0, 0, 0);
    }

    static void term1MovesAre1MoreByOneMove() {
        SowingBoards x = Sown.board("r", 0, 1, 1, 0, 0);
        x.moves(0);
        Due.same("of two LAPS", x.count(2), 1);
        x.moves(0);
        Due.same("and another", x.count(2), 2);
    }

    static void term1OverIfAllPitsOfTheMoverAreEmpty() {
        for (int c = 2; c <= 6; c++) {
            for (int pit = 0; pit < 2 * c; pit++) {
                SowingBoards x = Sown.board("", 0, only(c, pit, 1));
                Due.same("1 SEED in PIT " + pit + ", TURN of side 0", x.count(4), pit < c ? 0 : 1);
                x.passes();
                Due.same("1 SEED in PIT " + pit + ", TURN of side 1", x.count(4), pit < c ? 1 : 0);
            }
            SowingBoards x = Sown.board("", 0, new int[2 * c]);
            Due.same("all empty", x.count(4), 1);
        }
    }

    static void term1OverThoughTheStoreHasSeeds() {
        SowingBoards x = Sown.board("sx", 0, 0, 1, 0, 1);
        x.moves(1);
        Due.same("TURN stays", x.count(1), 0);
        Due.same("over", x.count(4), 1);
    }

    static void term1ThereIsNoMoveIfItIsOver() {
        SowingBoards x = Sown.board("", 0, 0, 0, 0, 1, 1, 1);
        for (int p = 0; p < 3; p++) {
            Due.same("moves(" + p + ")", x.moves(p), Due.NOTHING);
        }
        Due.same("no MOVE was made", x.count(2), 0);
        Due.pits("no MOVE was made", x, 0, 0, 0, 1, 1, 1);
    }
}
