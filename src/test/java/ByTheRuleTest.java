/** Promises 29 to 32. */
public final class ByTheRuleTest {
    public static void main(String[] args) {
        when();
        ends();
        round();
        fullest();
        Due.finish("ByTheRuleTest");
    }

    private static void when() {
        // PIT 1 brings 1, TURN stays, PIT 0 goes to PIT 1, and it is over.
        SowingBoards x = Due.made("21100", "scx");
        Due.same("now", x.when(2), 0);
        Due.row("now", x, 0, 0);
        Due.same("first", x.when(1), 1);
        Due.row("first", x, 1, 0);
        Due.same("second", x.when(0), 2);
        Due.row("second", x, 1, 0);
        Due.same("when(4)", x.when(4), Due.NONE);
        Due.same("when(-1)", x.when(-1), Due.NONE);
        Due.pits("changes nothing", x, 1, 1, 0, 0);
        Due.same("turn stays", x.count(1), 0);
        x = Due.made("20000", "scx");
        Due.same("over and empty", x.when(3), 0);
        x = Due.made("20011", "scx");
        Due.same("over and not empty", x.when(2), Due.NOTHING);
        Due.row("the row stays", x);
        x = circle("21001");
        Due.same("in a circle", x.when(3), 2);
        Due.row("in a circle", x, 0, 0);
        x = ruled("6781522166671", "sc", "-n");
        Due.same("60, the last that counts", x.when(7), 60);
        Due.row("60", x, 22, 18);
        x = ruled("6626726011143", "", "");
        Due.same("61, one too many", x.when(5), Due.NOTHING);
        Due.same("60 moves ahead of it", x.plays(60), 60);
        Due.same("and one more", x.plays(1), 1);
        Due.same("61", x.pit(5), 0);
    }

    private static SowingBoards ruled(String board, String laws, String rule) {
        SowingBoards x = Due.made(board, laws);
        Due.same("rule " + rule, Due.rule(x, rule), 0);
        return x;
    }

    /** Without LAWS, the last PIT that can moves: two SEEDS go round for ever. */
    private static SowingBoards circle(String board) {
        SowingBoards x = Due.made(board, "");
        Due.same("rule p", Due.rule(x, "p"), 0);
        return x;
    }

    private static void ends() {
        SowingBoards x = Due.made("21100", "scx");
        Due.same("ends", x.ends(), 2);
        Due.row("store and seeds", x, 2, 0);
        x.plays(2);
        Due.same("now", x.ends(), 0);
        Due.row("now", x, 2, 0);
        x = Due.made("20011", "scx");
        Due.same("over", x.ends(), 0);
        Due.row("of both sides", x, 0, 2);
        x = circle("21001");
        x.would(0);
        Due.same("never", x.ends(), Due.NOTHING);
        Due.row("the row stays", x, 1, 1, 1);
        x = ruled("480853176", "t", "-n");
        Due.same("99, the last that counts", x.ends(), 99);
        x.plays(60);
        Due.same("39 more", x.plays(60), 39);
        x = ruled("6342424041032", "c", "n");
        Due.same("100, one too many", x.ends(), Due.NOTHING);
        x.plays(60);
        Due.same("40 more", x.plays(60), 40);
        Due.same("over behind 100", x.count(4), 1);
    }

    private static void round() {
        SowingBoards x = circle("21001");
        // 0 1 0 1, 1 1 0 0, 1 0 1 0, 1 0 0 1.
        Due.same("round", x.round(), 4);
        Due.row("round", x, 0);
        // 2 0 0 0, 0 1 1 0, 0 1 0 1, 0 0 1 1, 1 0 1 0, 0 1 1 0.
        x = circle("22000");
        Due.same("round, from the second on", x.round(), 5);
        Due.row("round, from the second on", x, 1);
        Due.pits("changes nothing", x, 2, 0, 0, 0);
        Due.same("moves", x.count(2), 0);
        x = Due.made("21100", "scx");
        x.looks(0);
        Due.same("over first", x.round(), Due.NOTHING);
        Due.row("the row stays", x);
        x = Due.made("20011", "");
        Due.same("over now", x.round(), Due.NOTHING);
        x = ruled("401221111", "", "p");
        Due.same("60, the last that counts", x.round(), 60);
        Due.row("60", x, 24);
        x = ruled("420211012", "rk", "p-n");
        Due.same("61, one too many", x.round(), Due.NOTHING);
        x.plays(1);
        Due.same("a move later it is 60", x.round(), 60);
        Due.row("a move later", x, 6);
    }

    private static void fullest() {
        SowingBoards x = Due.made("21100", "scx");
        Due.same("of equal ones the first", x.fullest(0), 0);
        Due.row("of equal ones the first", x, 1);
        Due.same("fullest(2)", x.fullest(2), 1);
        Due.row("fullest(2)", x, 1);
        Due.same("fewer", x.fullest(60), 1);
        Due.same("fullest(61)", x.fullest(61), Due.NONE);
        Due.same("fullest(-1)", x.fullest(-1), Due.NONE);
        Due.row("the row stays", x, 1);
        x = Due.made("3000004", "scx");
        Due.same("of the other side", x.fullest(5), 5);
        Due.row("of the other side", x, 4);
        x = Due.made("20000", "");
        Due.same("all empty", x.fullest(0), 0);
        Due.row("all empty", x, 0);
    }
}
