/** Promises 10 to 15, and the MOVE itself (term 1). */
public final class MovesTest {
    public static void main(String[] args) {
        sown();
        leftOut();
        laps();
        capturedOpposite();
        capturedBackwards();
        turnThatStays();
        askedPits();
        played();
        passed();
        added();
        games();
        undone();
        Due.finish("MovesTest");
    }

    private static void sown() {
        SowingBoards x = Due.made("29000", "");
        Due.same("9 seeds, twice round and one more", x.moves(0), 0);
        Due.pits("the lifted pit is sown, too", x, 2, 3, 2, 2);
        Due.row("9 seeds", x, 1, 1, 1);
        x = Due.made("29000", "s");
        Due.same("9 seeds with the store", x.moves(0), 2);
        Due.pits("with the store", x, 1, 2, 2, 2);
        Due.stores("with the store", x, 2, 0);
        Due.row("with the store", x, 1, 3, 1);
        x = Due.made("20090", "s");
        x.passes();
        Due.same("side 1 sows its own store", x.moves(0), 2);
        Due.pits("never that of the other one", x, 2, 2, 1, 2);
        Due.stores("never that of the other one", x, 0, 2);
        Due.row("side 1", x, 1, 1, 0);
        x = Due.made("20100", "");
        x.moves(1);
        Due.stores("without s", x, 0, 0);
        Due.pits("without s", x, 0, 0, 1, 0);
        x = Due.made("20001", "s");
        x.passes();
        Due.same("into the store", x.moves(1), 1);
        Due.row("without x the turn goes", x, 1, Due.STORE, 0);
        Due.same("moves", x.count(2), 1);
    }

    private static void leftOut() {
        SowingBoards x = Due.made("29000", "k");
        x.moves(0);
        Due.pits("three times round without it", x, 0, 3, 3, 3);
        Due.row("left out", x, 1, 3, 1);
        x = Due.made("20900", "sk");
        Due.same("the store behind a pit that is left out", x.moves(1), 3);
        Due.pits("left out ahead of the store", x, 2, 0, 2, 2);
        Due.row("left out ahead of the store", x, 1, Due.STORE, 1);
        // 1 3 0 0, 0 4 0 0, 1 0 2 1, 2 0 0 2, 0 1 1 2: the second lap leaves out PIT 1, not 0.
        x = Due.made("21300", "rk");
        Due.same("four laps", x.moves(0), 0);
        Due.row("four laps", x, 4, 2, 1);
        Due.pits("four laps", x, 0, 1, 1, 2);
    }

    private static void laps() {
        SowingBoards x = Due.made("21110", "r");
        x.moves(0);
        Due.row("1, then 2", x, 2, 3, 1);
        Due.pits("1, then 2", x, 0, 0, 2, 1);
        x = Due.made("20120", "sr");
        Due.same("no lap behind the store", x.moves(1), 1);
        Due.row("no lap behind the store", x, 1, Due.STORE, 1);
        x = Due.made("23010", "srx");
        Due.same("3, then 2 of side 1", x.moves(0), 1);
        Due.row("3, then 2 of side 1", x, 2, 0, 1);
        Due.pits("3, then 2 of side 1", x, 1, 1, 0, 1);
        // Behind 8 laps these seeds lie as they did, and again PIT 1 is to be lifted.
        x = Due.made("21202", "r");
        Due.same("50 laps", x.moves(1), 0);
        Due.row("50 laps", x, 50, 2, 1);
        Due.pits("50 laps", x, 2, 1, 2, 0);
        x = Due.made("21202", "rt");
        Due.same("50 laps, then 2 are captured", x.moves(1), 2);
        Due.pits("50 laps, then 2 are captured", x, 2, 1, 0, 0);
    }

    private static void capturedOpposite() {
        SowingBoards x = Due.made("21000", "c");
        Due.same("opposite is empty", x.moves(0), 0);
        Due.pits("nothing captured", x, 0, 1, 0, 0);
        x = Due.made("21050", "c");
        Due.same("captured", x.moves(0), 6);
        Due.pits("captured", x, 0, 0, 0, 0);
        Due.stores("captured", x, 6, 0);
        Due.row("captured", x, 1, 1, 1);
        x = Due.made("21150", "c");
        Due.same("the pit had a seed", x.moves(0), 0);
        x = Due.made("20250", "c");
        Due.same("a pit of the other side", x.moves(1), 0);
        x = Due.made("21050", "");
        Due.same("without c", x.moves(0), 0);
        x = Due.made("20410", "c");
        Due.same("into the pit that was lifted", x.moves(1), 1 + 2);
        Due.pits("into the pit that was lifted", x, 1, 0, 0, 1);
    }

    private static void capturedBackwards() {
        SowingBoards x = Due.made("3003121", "t");
        Due.same("three pits one by one", x.moves(2), 2 + 3 + 2);
        Due.pits("three pits", x, 0, 0, 0, 0, 0, 0);
        Due.row("three pits", x, 1, 5, 1);
        x = Due.made("3003221", "t");
        Due.same("3, 3 and 2", x.moves(2), 3 + 3 + 2);
        x = Due.made("3003131", "t");
        Due.same("ahead of it there are 4", x.moves(2), 2);
        Due.pits("4 stay", x, 0, 0, 0, 2, 4, 0);
        x = Due.made("3003101", "t");
        Due.same("ahead of it there is 1", x.moves(2), 2);
        Due.pits("1 stays", x, 0, 0, 0, 2, 1, 0);
        x = Due.made("3003120", "t");
        Due.same("the last has 1", x.moves(2), 0);
        x = Due.made("3003123", "t");
        Due.same("the last has 4", x.moves(2), 0);
        x = Due.made("3221000", "t");
        Due.same("never his own pits", x.moves(0), 0);
        x = Due.made("3020100", "t");
        Due.same("not on beyond the side", x.moves(1), 2);
        Due.pits("not on beyond the side", x, 0, 0, 1, 0, 0, 0);
        x = Due.made("3120003", "t");
        x.passes();
        Due.same("side 1 takes from pits 1, 0", x.moves(2), 0);
        x = Due.made("3120002", "t");
        x.passes();
        Due.same("side 1 takes from pits 1, 0", x.moves(2), 3 + 2);
        Due.stores("side 1 takes", x, 0, 5);
        x = Due.made("3003121", "");
        Due.same("without t", x.moves(2), 0);
    }

    private static void turnThatStays() {
        SowingBoards x = Due.made("20111", "sx");
        Due.same("the last in the store", x.moves(1), 1);
        Due.row("turn stays", x, 1, Due.STORE, 0);
        Due.same("over, for the pits are empty", x.count(4), 1);
        x = Due.made("20211", "sx");
        Due.same("not the last", x.moves(1), 1);
        Due.row("turn goes", x, 1, 2, 1);
        x = Due.made("20111", "x");
        x.moves(1);
        Due.row("x without s", x, 1, 2, 1);
    }

    private static void askedPits() {
        SowingBoards x = Due.made("20211", "sx");
        Due.same("empty", x.moves(0), Due.NOTHING);
        Due.same("columns", x.moves(2), Due.NONE);
        Due.same("below 0", x.moves(-1), Due.NONE);
        Due.same("MIN", x.moves(Integer.MIN_VALUE), Due.NONE);
        Due.same("MAX", x.moves(Integer.MAX_VALUE), Due.NONE);
        Due.row("the row stays", x);
        Due.same("nothing was done", x.count(8), 0);
        x.moves(1);
        x.moves(9);
        Due.row("the row stays", x, 1, 2, 1);
        x.moves(1);
        Due.same("p is a pit of the mover", x.pit(3), 0);
    }

    private static void played() {
        SowingBoards x = Due.made("21201", "scx");
        Due.same("plays(0)", x.plays(0), Due.NONE);
        Due.same("plays(61)", x.plays(61), Due.NONE);
        // PIT 1 takes 1, then 1 of 0 0 1 1 takes 1 and TURN stays, then 0 and so on till it is over.
        Due.same("one", x.plays(1), 1);
        Due.row("one", x, 1, 0);
        Due.pits("one", x, 1, 0, 1, 1);
        Due.same("moves", x.count(2), 1);
        Due.same("all", x.plays(60), 2);
        Due.same("over", x.count(4), 1);
        Due.same("plays when over", x.plays(1), Due.NOTHING);
        Due.same("NONE comes first", x.plays(0), Due.NONE);
        Due.row("the row stays", x, x.store(0), x.store(1));
        Due.same("two can be undone", x.count(8), 2);
        Due.same("all that plays did", x.undo(), 1);
        Due.same("moves", x.count(2), 1);
        x = new SowingBoards();
        Due.rule(x, "p");
        x.plays(1);
        Due.same("by the rule", x.pit(2), 0);
    }

    private static void passed() {
        SowingBoards x = new SowingBoards();
        x.moves(0);
        x.would(0);
        int numbers = x.count(9);
        Due.same("stays, passes", x.passes(), 1);
        Due.same("back", x.passes(), 0);
        Due.same("moves stay", x.count(2), 1);
        Due.same("the row stays", x.count(9), numbers);
        Due.same("undo", x.undo(), 2);
        Due.same("whose turn", x.count(1), 1);
    }

    private static void added() {
        SowingBoards x = Due.made("20000", "scx");
        Due.same("adds(4, 1)", x.adds(4, 1), Due.NONE);
        Due.same("adds(-1, 1)", x.adds(-1, 1), Due.NONE);
        Due.same("adds(0, 0)", x.adds(0, 0), Due.NONE);
        Due.same("adds(0, 10)", x.adds(0, 10), Due.NONE);
        Due.same("adds(0, -1)", x.adds(0, -1), Due.NONE);
        Due.same("nothing to undo", x.undo(), Due.NONE);
        Due.same("of side 1, too", x.adds(3, 9), 9);
        for (int i = 1; i <= 21; i++) {
            Due.same("more", x.adds(0, 9), 9 * i);
        }
        Due.same("198 and 3", x.adds(0, 3), Due.NOTHING);
        Due.same("NONE comes first", x.adds(0, 10), Due.NONE);
        Due.same("198 and 2", x.adds(1, 2), 2);
        Due.same("200 and 1", x.adds(2, 1), Due.NOTHING);
        Due.same("200", x.count(3), 200);
        x.moves(1);
        Due.same("stores count, too", x.store(0), 1);
        Due.same("199 in pits", x.adds(2, 1), Due.NOTHING);
    }

    private static void games() {
        SowingBoards x = Due.made("21201", "scx");
        Due.same("an act that is none", Due.game(x, "10/0"), 3);
        // PIT 1: 0 0 1 1 and 1; side 1: PIT 0 to 3; / ; PIT 0 of side 1 is empty.
        Due.row("an act that is none", x, 1, x.count(1));
        Due.same("as one", x.undo(), 0);
        Due.pits("as one", x, 1, 2, 0, 1);
        Due.same("nothing is done", Due.game(x, "1x"), -2);
        Due.same("nothing is done", Due.game(x, "6"), -1);
        Due.same("nothing is done", Due.game(x, "1 "), -2);
        Due.same("the text is read", x.count(10), 0);
        Due.same("moves", x.count(2), 0);
        Due.same("no act", Due.game(x, ""), 0);
        Due.row("no act", x, 0, 0);
        Due.same("none could be done", Due.game(x, "5/"), 0);
        Due.row("none could be done", x, 1, 0);
        Due.same("nothing to undo", x.undo(), Due.NONE);
        Due.same("60 acts", Due.game(x, Due.times("/", 60)), 60);
        Due.row("60 acts", x, 0, 0);
        Due.same("61 acts", Due.game(x, Due.times("/", 61)), -61);
        Due.same("62 and a wrong one", Due.game(x, Due.times("/", 59) + "x/"), -60);
        Due.same("60, then a wrong one", Due.game(x, Due.times("/", 60) + "x"), -61);
        Due.row("the row stays", x, 0, 0);
        Due.same("stars", Due.game(x, "***"), 3);
        Due.row("stars", x, 0, x.count(1));
        Due.same("over", x.count(4), 1);
        Due.same("a star when over", Due.game(x, "*"), 0);
        Due.row("a star when over", x, 1, x.count(1));
        Due.same("of two done", x.count(8), 2);
    }

    private static void undone() {
        SowingBoards x = new SowingBoards();
        Due.same("none", x.undo(), Due.NONE);
        for (int i = 0; i < 14; i++) {
            x.passes();
        }
        x.adds(0, 5);
        Due.same("12 are kept", x.count(8), 12);
        for (int i = 11; i >= 0; i--) {
            Due.same("undo", x.undo(), i);
        }
        Due.same("none left", x.undo(), Due.NONE);
        Due.same("as behind 3 passes", x.count(1), 1);
        Due.same("seeds", x.pit(0), 3);
        x.moves(2);
        x.plays(3);
        Due.same("moves", x.count(2), 4);
        x.undo();
        Due.same("moves", x.count(2), 1);
        x.undo();
        Due.same("moves", x.count(2), 0);
        Due.pits("as ahead of it", x, 3, 3, 3, 3, 3, 3);
        Due.stores("as ahead of it", x, 0, 0);
        x.passes();
        x.keep(0);
        x.again(0);
        Due.same("again forgets them", x.undo(), Due.NONE);
        x.passes();
        x.again(1);
        Due.same("but not refused", x.undo(), 0);
        x.passes();
        Due.board(x, "21111");
        Due.same("board forgets them", x.undo(), Due.NONE);
        x.passes();
        Due.board(x, "2111");
        Due.same("but not refused", x.undo(), 0);
    }
}
