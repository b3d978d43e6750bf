import java.util.function.Consumer;
import java.util.function.ToLongFunction;

/** Promises 16 to 24. */
public final class EdgesOfWhatAMoveDoesTest {
    private static final int MIN = Integer.MIN_VALUE;
    private static final int MAX = Integer.MAX_VALUE;
    private static final Consumer<SowingBoards> RICH = Twins::rich;
    private static final Consumer<SowingBoards> OVER = Twins::over;
    // So many SEEDS that come to the STORE one by one: the seven by PITS 5 2 5 3 5 4 5.
    private static final int[] SEVEN = {0, 0, 4, 2, 0, 1, 0, 0, 0, 0, 0, 0};
    private static final int[] SIX = {0, 0, 4, 2, 0, 0, 0, 0, 0, 0, 0, 0};
    private static final int[] FIVE = {0, 0, 0, 3, 1, 1, 0, 0, 0, 0, 0, 0};

    public static void main(String[] args) {
        Edges.run(EdgesOfWhatAMoveDoesTest.class);
    }

    private interface OfPit {
        long asked(SowingBoards x, int p);
    }

    /** NONE for a PIT that is not there, -2 for an empty one; nothing changes. */
    private static void refusals(String call, OfPit one) {
        for (int p : new int[] {MIN, -1, 4, 5, 8, MAX}) {
            Twins.nothing(call + "(" + p + ")", RICH, x -> one.asked(x, p), Due.NONE);
            Twins.nothing("over, " + call + "(" + p + ")", OVER, x -> one.asked(x, p), Due.NONE);
        }
        Twins.nothing(call + "(3)", RICH, x -> one.asked(x, 3), Due.NOTHING);
        for (int p = 0; p < 4; p++) {
            int asked = p;
            Twins.nothing("over, " + call + "(" + p + ")", OVER, x -> one.asked(x, asked), Due.NOTHING);
        }
    }

    private static void over(String call, ToLongFunction<SowingBoards> one) {
        Twins.nothing("over, " + call, OVER, one, Due.NOTHING);
        Twins.nothing("over though the other side has SEEDS, " + call, x -> {
            Due.board(x, "3000111");
            x.reach(0);
        }, one, Due.NOTHING);
        Twins.nothing("over of side 1, " + call, x -> {
            Due.board(x, "3111000");
            x.passes();
            x.reach(0);
        }, one, Due.NOTHING);
    }

    // ---- promise 16

    static void promise16NoneAndNothing() {
        refusals("would", (x, p) -> x.would(p));
    }

    static void promise16LapsPlaceAndTurn() {
        Twins.rowAlone("of one LAP", RICH, x -> x.would(2), 0, 1, 7, 0);
        Twins.rowAlone("into the STORE", x -> Due.board(x, "20111"), x -> x.would(1), 1, 1, Due.STORE, 0);
        Twins.rowAlone("of 50 LAPS", x -> {
            Due.board(x, "21202");
            Due.laws(x, "r");
        }, x -> x.would(1), 0, 50, 2, 1);
    }

    static void promise16SeedsThatWouldComeByItAlone() {
        SowingBoards x = Sown.board("sx", 0, 2, 1, 0, 0);
        x.moves(1);
        Due.same("one more", x.would(0), 1);
        Due.same("the STORE stays", x.store(0), 1);
    }

    // ---- promise 17

    static void promise17NoneAndNothing() {
        refusals("worth", (x, p) -> x.worth(p));
    }

    static void promise17TheAnswerIs0WhateverItIsWorth() {
        String[] rules = {"0", "-1", "-2", "999", "128*256*256*256", "128*256*256*256-1"};
        long[] worth = {0, -1, -2, 999, MIN, MAX};
        for (int i = 0; i < rules.length; i++) {
            SowingBoards x = new SowingBoards();
            Due.rule(x, rules[i]);
            Due.same("worth by " + rules[i], x.worth(2), 0);
            Due.row("worth by " + rules[i], x, worth[i]);
        }
    }

    // ---- promise 18

    static void promise18NothingIfItIsOver() {
        over("best()", x -> x.best());
    }

    static void promise18TheFirstAndTheLastPit() {
        for (int c = 2; c <= 6; c++) {
            SowingBoards x = Sown.board("", 0, Due.counted(2 * c, 1));
            Due.same("all are equal", best(x, "0"), 0);
            Due.same("the last one", best(x, "p"), c - 1);
            Due.row("the last one", x, c - 1);
            x.passes();
            Due.same("the last one of side 1", best(x, "p"), c - 1);
        }
    }

    private static int best(SowingBoards x, String rule) {
        Due.rule(x, rule);
        return x.best();
    }

    static void promise18AnEmptyPitIsNone() {
        SowingBoards x = Sown.board("", 0, 0, 1, 0, 5, 5, 5);
        Due.same("the greatest that can be", best(x, "-p"), 1);
        Due.same("the only one", best(x, "0-9"), 1);
        Due.row("though below 0", x, -9);
    }

    // ---- promise 19

    static void promise19NothingIfItIsOver() {
        over("most()", x -> x.most());
    }

    static void promise19OfEqualOnesTheFirst() {
        SowingBoards x = Sown.board("c", 0, 1, 0, 1, 0, 1, 0, 5, 0, 5, 0, 0, 0);
        // PITS 1, 3 and 5 are opposite of 10, 8 and 6.
        Due.same("6 by PIT 2", x.most(), 6);
        Due.row("6 by PIT 2", x, 2);
        x.adds(10, 5);
        Due.same("6 by PIT 0 too", x.most(), 6);
        Due.row("6 by PIT 0 too", x, 0);
    }

    static void promise19NoneThatComes() {
        SowingBoards x = Sown.board("", 0, 0, 1, 1, 0, 0, 0);
        Due.same("0", x.most(), 0);
        Due.row("the first that is not empty", x, 1);
    }

    static void promise19OneMoveOfTheTurnAlone() {
        SowingBoards x = Sown.board("sx", 0, SEVEN);
        Due.same("1", x.most(), 1);
        Due.row("1", x, 2);
    }

    // ---- promise 20

    static void promise20NothingIfItIsOver() {
        over("chain()", x -> x.chain());
    }

    static void promise20OneMoveIsTheLeast() {
        SowingBoards x = Sown.board("", 0, 0, 1, 1, 0, 0, 0);
        Due.same("none comes", x.chain(), 0);
        Due.row("none comes", x, 1);
    }

    static void promise20SixMovesAreTheMost() {
        SowingBoards x = Sown.board("sx", 0, FIVE);
        Due.same("5 of 5", x.chain(), 5);
        Due.row("5 of 5", x, 5, 3, 5, 4, 5);
        x = Sown.board("sx", 0, SIX);
        Due.same("6 of 6", x.chain(), 6);
        Due.row("6 of 6", x, 2, 5, 3, 5, 4, 5);
        x = Sown.board("sx", 0, SEVEN);
        Due.same("6 of 7", x.chain(), 6);
        Due.row("6 of 7", x, 5, 2, 5, 3, 4, 5);
    }

    static void promise20OnlyAsLongAsTurnStays() {
        SowingBoards x = Sown.board("s", 0, SEVEN);
        Due.same("without x one MOVE", x.chain(), 1);
        Due.row("without x one MOVE", x, 2);
        x = Sown.board("sx", 0, 2, 2, 0, 0);
        // PIT 1 brings 1, but then TURN is the other's; PIT 0 brings 1 and TURN stays: then PIT 1 of 3.
        Due.same("behind PIT 0", x.chain(), 2);
        Due.row("behind PIT 0", x, 0, 1);
    }

    static void promise20OneThatEndsEarlierIsTheLesserOne() {
        SowingBoards x = Sown.board("sx", 0, 1, 1, 0, 0);
        Due.same("PIT 0 brings no more", x.chain(), 1);
        Due.row("PIT 0 brings no more", x, 1);
        x = Sown.board("sx", 0, 1, 0, 1, 1, 0, 0, 0, 0);
        Due.same("PITS 0 and 2 bring no more", x.chain(), 1);
        Due.row("PITS 0 and 2 bring no more", x, 3);
    }

    static void promise20OfEqualOnesTheLeastRow() {
        SowingBoards x = Sown.board("scx", 0, 3, 1, 0, 3, 0, 0);
        Due.same("4", x.chain(), 4);
        Due.row("not PIT 1 alone", x, 0, 2, 1, 2);
        x = Sown.board("s", 0, 2, 1, 0, 0);
        Due.same("1 by each", x.chain(), 1);
        Due.row("1 by each", x, 0);
    }

    static void promise20TillItIsOver() {
        SowingBoards x = Sown.board("sx", 0, 0, 1, 1, 1);
        Due.same("no MOVE more", x.chain(), 1);
        Due.row("no MOVE more", x, 1);
    }

    static void promise20OfSide1WithoutWhatWasInTheStore() {
        SowingBoards x = Sown.board("sx", 1, 0, 0, 2, 1);
        x.moves(1);
        Due.same("1 and 1", x.chain(), 2);
        Due.row("1 and 1", x, 0, 1);
        Due.stores("the STORES stay", x, 0, 1);
    }

    // ---- promise 21

    static void promise21NothingIfItIsOver() {
        over("longest()", x -> x.longest());
    }

    static void promise21OneMoveIsTheLeast() {
        SowingBoards x = Sown.board("s", 0, 0, 1, 1, 0, 0, 0);
        Due.same("without x", x.longest(), 1);
        Due.row("the least row", x, 1);
        x = Sown.board("sx", 0, 0, 1, 0, 1);
        Due.same("then it is over", x.longest(), 1);
        Due.row("then it is over", x, 1);
    }

    static void promise21SixMovesAreTheMost() {
        SowingBoards x = Sown.board("sx", 0, FIVE);
        Due.same("5 of 5", x.longest(), 5);
        Due.row("5 of 5", x, 5, 3, 5, 4, 5);
        x = Sown.board("sx", 0, SIX);
        Due.same("6 of 6", x.longest(), 6);
        Due.row("6 of 6", x, 2, 5, 3, 5, 4, 5);
        x = Sown.board("sx", 0, SEVEN);
        Due.same("6 of 7", x.longest(), 6);
        Due.row("6 of 7", x, 5, 2, 5, 3, 4, 5);
    }

    static void promise21OfAsManyTheLeastRow() {
        SowingBoards x = Sown.board("sx", 0, 1, 1, 0, 1, 0, 0, 0, 0);
        Due.same("2", x.longest(), 2);
        Due.row("not 3 1", x, 3, 0);
        x = Sown.board("sx", 0, 1, 0, 3, 1, 0, 0, 0, 0);
        Due.same("2", x.longest(), 2);
        Due.row("not 3 2, though that brings one more", x, 3, 0);
    }

    static void promise21MoreMovesThoughTheyBringNoMore() {
        SowingBoards x = Sown.board("sx", 0, 1, 1, 0, 0);
        Due.same("2", x.longest(), 2);
        Due.row("2", x, 1, 0);
    }

    // ---- promise 22

    static void promise22NothingToldWithoutAMove() {
        Twins.rowAlone("side 1 has none", x -> {
            Due.board(x, "3111000");
            x.would(0);
        }, x -> x.threat(), 0);
        Twins.rowAlone("side 0 has none", x -> {
            Due.board(x, "3000111");
            x.passes();
            x.reach(0);
        }, x -> x.threat(), 0);
        SowingBoards x = new SowingBoards();
        OVER.accept(x);
        Due.same("all empty", x.threat(), 0);
        Due.row("all empty", x);
    }

    static void promise22AMoveThatBringsNothingIsTold() {
        SowingBoards x = Sown.board("", 0, 1, 1, 1, 0, 1, 1);
        Due.same("0", x.threat(), 0);
        Due.row("its first PIT that is not empty", x, 1);
    }

    static void promise22OfEqualOnesTheFirst() {
        SowingBoards x = Sown.board("s", 0, 1, 1, 1, 0, 2, 1);
        Due.same("1", x.threat(), 1);
        Due.row("1", x, 1);
    }

    static void promise22WereItItsTurnNow() {
        // It takes the 5 of PIT 0, opposite of its last one.
        SowingBoards x = Sown.board("c", 0, 5, 0, 0, 0, 1, 0);
        Due.same("6", x.threat(), 6);
        Due.row("6", x, 1);
        Due.same("TURN stays", x.count(1), 0);
        x = Sown.board("c", 1, 1, 0, 0, 0, 5, 0);
        Due.same("6 of side 0", x.threat(), 6);
        Due.row("6 of side 0", x, 0);
    }

    static void promise22ThoughItIsOver() {
        SowingBoards x = Sown.board("s", 0, 0, 0, 0, 1);
        Due.same("over", x.count(4), 1);
        Due.same("1", x.threat(), 1);
        Due.row("1", x, 1);
    }

    static void promise22OneMoveAlone() {
        SowingBoards x = Sown.board("sx", 1, SEVEN);
        Due.same("1", x.threat(), 1);
        Due.row("1", x, 2);
    }

    // ---- promise 23

    static void promise23NoneAndNothing() {
        refusals("risks", (x, p) -> x.risks(p));
    }

    static void promise23NoneIfTheOtherSideHasNoMove() {
        Twins.nothing("all empty", x -> {
            Due.board(x, "3110000");
            x.reach(0);
        }, x -> x.risks(0), 0);
    }

    static void promise23NoneIfTurnStays() {
        SowingBoards x = Sown.board("sx", 0, 0, 1, 0, 1);
        Due.same("TURN stays", x.risks(1), 0);
        Due.laws(x, "s");
        Due.same("TURN goes", x.risks(1), 1);
        Twins.nothing("TURN stays", y -> {
            RICH.accept(y);
            y.passes();
        }, y -> y.risks(0), 0);
        // He could take 1 more, and the other side 1 if TURN were its own.
        x = Sown.board("sx", 0, 2, 1, 0, 1);
        Due.same("TURN stays, and he could go on", x.risks(1), 0);
    }

    static void promise23BehindTheMove() {
        // Ahead of it the other side could take nothing: by PIT 0 it is 0 1, and 2 2 of the other side.
        SowingBoards x = Sown.board("s", 0, 4, 0, 1, 0);
        Due.same("now", x.threat(), 0);
        Due.same("behind PIT 0", x.risks(0), 1);
        Due.pits("a question", x, 4, 0, 1, 0);
        x = Sown.board("c", 0, 4, 1, 0, 0, 1, 0);
        Due.same("4 are there and 1 comes", x.risks(1), 5);
        Due.same("the 4 are gone", x.risks(0), 0);
    }

    static void promise23TheRowStays() {
        Twins.nothing("risks(2)", RICH, x -> x.risks(2), 1);
    }

    // ---- promise 24

    static void promise24None() {
        SowingBoards x = Sown.board("", 0, 1, 1, 1, 1, 0, 0);
        Due.same("none", x.starves(), 0);
        Due.row("none", x, 0);
    }

    static void promise24All() {
        SowingBoards x = Sown.board("", 0, 1, 1, 1, 1, 1, 0, 0, 0, 0, 0, 0, 0);
        Due.same("all but the empty one", x.starves(), 5);
        Due.row("all but the empty one", x, 31);
    }

    static void promise24TheLastPitAlone() {
        SowingBoards x = Sown.board("s", 0, 2, 0, 0, 0, 9, 1, 0, 0, 0, 0, 0, 0);
        // By PIT 4 the other side gets 7 of the 9; by PITS 0 and 5 it has none.
        Due.same("two", x.starves(), 2);
        Due.row("two", x, 1 + 32);
    }

    static void promise24HisOwnPitsIfTurnStays() {
        SowingBoards x = Sown.board("sx", 0, 0, 1, 1, 1);
        Due.same("his own", x.starves(), 1);
        Due.row("his own", x, 2);
        Due.laws(x, "s");
        Due.same("those of the other side", x.starves(), 0);
        Due.row("those of the other side", x, 0);
    }

    static void promise24NoMoveIfItIsOver() {
        SowingBoards x = Sown.board("", 0, 0, 0, 0, 0);
        Due.same("over", x.starves(), 0);
        Due.row("over", x, 0);
        x = Sown.board("", 1, 1, 1, 0, 0);
        Due.same("over of side 1", x.starves(), 0);
        Due.row("over of side 1", x, 0);
    }

    static void promise24OfSide1() {
        SowingBoards x = Sown.board("", 1, 0, 0, 1, 0);
        Due.same("PIT 0 of side 1", x.starves(), 1);
        Due.row("PIT 0 of side 1", x, 1);
    }
}
