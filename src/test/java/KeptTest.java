/** Promises 46 to 49. */
public final class KeptTest {
    public static void main(String[] args) {
        keep();
        again();
        count();
        row();
        Due.finish("KeptTest");
    }

    private static void keep() {
        SowingBoards x = new SowingBoards();
        Due.same("keep(0)", x.keep(0), true);
        Due.same("keep(1)", x.keep(1), true);
        Due.same("keep(2)", x.keep(2), false);
        Due.same("keep(-1)", x.keep(-1), false);
        Due.same("can't be undone", x.count(8), 0);
    }

    private static void again() {
        SowingBoards x = Due.made("21201", "scx");
        Due.same("nothing kept", x.again(0), false);
        x.moves(1);
        x.keep(0);
        x.moves(1);
        x.moves(0);
        x.keep(1);
        Due.laws(x, "t");
        x.heard(0, 0);
        x.saw(0, 0);
        Due.same("again(0)", x.again(0), true);
        Due.pits("as kept", x, 1, 0, 1, 1);
        Due.stores("as kept", x, 1, 0);
        Due.same("turn", x.count(1), 1);
        Due.same("moves", x.count(2), 1);
        Due.same("nothing to undo", x.count(8), 0);
        Due.same("laws are as they are", x.count(5), 32);
        Due.same("what was heard", x.count(6), 1);
        Due.same("what was seen", x.count(7), 1);
        Due.same("again(1)", x.again(1), true);
        Due.same("moves", x.count(2), 3);
        Due.same("and once more", x.again(0), true);
        Due.same("moves", x.count(2), 1);
        x.passes();
        x.keep(0);
        x.passes();
        x.again(0);
        Due.same("kept anew", x.count(1), 0);
        Due.same("again(2)", x.again(2), false);
        Due.same("again(-1)", x.again(-1), false);
        x.passes();
        Due.board(x, "212");
        Due.same("no board came", x.again(0), true);
        x.passes();
        Due.same("the board came", Due.board(x, "21111"), 4);
        Due.same("again(0)", x.again(0), false);
        Due.same("again(1)", x.again(1), false);
        Due.pits("as it is", x, 1, 1, 1, 1);
        x.keep(1);
        x.passes();
        Due.same("kept since", x.again(1), true);
        Due.same("turn", x.count(1), 0);
        x.sheet(2, 4, 5, 0);
        Due.same("behind a sheet", x.again(1), true);
        Due.pits("behind a sheet", x, 1, 1, 1, 1);
    }

    private static void count() {
        SowingBoards x = new SowingBoards();
        Due.board(x, "5" + Due.times("1", 10));
        Due.laws(x, "srt");
        x.heard(0, 0);
        x.heard(0, 0);
        x.saw(0, 0);
        x.adds(9, 9);
        x.moves(0);
        x.passes();
        x.sign(0);
        x.end(3);
        int[] wants = {5, 0, 1, 18, 0, 1 + 2 + 32, 2, 1, 3, 3, 3};
        for (int what = 0; what < wants.length; what++) {
            Due.same("count(" + what + ")", x.count(what), wants[what]);
        }
        Due.same("count(11)", x.count(11), Due.NONE);
        Due.same("count(-1)", x.count(-1), Due.NONE);
        Due.same("count(MAX)", x.count(Integer.MAX_VALUE), Due.NONE);
        x.sheet(3, 0, 0, 0);
        Due.same("over", x.count(4), 1);
        Due.same("seeds", x.count(3), 0);
    }

    private static void row() {
        SowingBoards x = new SowingBoards();
        Due.row("none", x);
        x.would(1);
        Due.row("told", x, 1, 3, 1);
        x.most();
        Due.row("told last", x, 0);
        x.would(7);
        x.sign(0);
        x.end(0);
        x.passes();
        x.risks(0);
        x.count(0);
        Due.row("stays", x, 0);
        Due.same("row(MIN)", Due.rowOf(x, Integer.MIN_VALUE), Due.THROWS);
        Due.same("row(MAX)", Due.rowOf(x, Integer.MAX_VALUE), Due.THROWS);
    }
}
