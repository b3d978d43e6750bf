/** Promises 25 to 28. */
public final class LookedAheadTest {
    public static void main(String[] args) {
        looks();
        ways();
        reach();
        luck();
        Due.finish("LookedAheadTest");
    }

    private static void looks() {
        SowingBoards x = Due.made("21100", "scx");
        Due.same("none", x.looks(0), 300);
        Due.row("none", x);
        Due.same("one", x.looks(1), 301);
        Due.row("one", x, 1);
        Due.same("turn stays", x.looks(2), 301);
        Due.row("turn stays", x, 1, 0);
        Due.same("till it is over", x.looks(4), 301);
        Due.row("till it is over", x, 1, 0);
        Due.same("looks(5)", x.looks(5), Due.NONE);
        Due.same("looks(-1)", x.looks(-1), Due.NONE);
        Due.row("the row stays", x, 1, 0);
        Due.pits("changes nothing", x, 1, 1, 0, 0);
        x = Due.made("20011", "scx");
        Due.same("over", x.looks(4), 300);
        Due.row("over", x);
        x.passes();
        Due.same("of side 1", x.looks(2), 301);
        Due.row("of side 1", x, 1, 0);
        x.moves(1);
        x.passes();
        Due.same("the other one is ahead", x.looks(0), 299);
        // By c alone: PIT 2 leaves the 4 of PIT 0 to the other side, PIT 0 does not.
        x = Due.made("3401100", "c");
        Due.same("what the other side does", x.looks(2), 300);
        Due.row("what the other side does", x, 0, 0);
        Due.same("but not by one move", x.looks(1), 300);
        Due.row("of as good moves the first", x, 0);
    }

    private static void ways() {
        SowingBoards x = Due.made("21100", "scx");
        Due.same("by PIT 0", x.ways(0, 1), 1);
        Due.row("by PIT 0", x, 0);
        Due.same("by PIT 1", x.ways(1, 1), 1);
        Due.row("by PIT 1", x, 1);
        Due.same("of the other side", x.ways(3, 1), 2);
        Due.row("the least", x, 0);
        Due.same("two moves", x.ways(0, 2), 1);
        Due.row("two moves", x, 1, 0);
        Due.same("no way", x.ways(1, 2), 0);
        Due.row("no way", x);
        Due.same("just so many", x.ways(0, 3), 0);
        x.would(0);
        Due.same("ways(4, 1)", x.ways(4, 1), Due.NONE);
        Due.same("ways(-1, 1)", x.ways(-1, 1), Due.NONE);
        Due.same("ways(0, 5)", x.ways(0, 5), Due.NONE);
        Due.same("ways(0, -1)", x.ways(0, -1), Due.NONE);
        Due.row("the row stays", x, 1, 1, 1);
        Due.same("no move and empty", x.ways(2, 0), 1);
        Due.row("no move and empty", x);
        Due.same("no move and not empty", x.ways(0, 0), 0);
        x = Due.made("3101010", "");
        Due.same("four rows", x.ways(0, 3), 4);
        Due.row("the least of four", x, 0, 1, 1);
    }

    private static void reach() {
        SowingBoards x = Due.made("21100", "scx");
        Due.same("none", x.reach(0), 1);
        Due.row("none", x, 0, 0);
        Due.same("one", x.reach(1), 2);
        Due.row("one", x, 0, 1);
        Due.same("two", x.reach(2), 1);
        Due.row("two", x, 1, 1);
        Due.same("just so many", x.reach(3), 0);
        Due.row("just so many", x);
        x.fullest(0);
        Due.same("reach(4)", x.reach(4), Due.NONE);
        Due.same("reach(-1)", x.reach(-1), Due.NONE);
        Due.row("the row stays", x, 1);
        // Two of the four rows lead to 0 1 0 1 0 1.
        x = Due.made("3101010", "");
        Due.same("three of four rows", x.reach(3), 3);
        Due.row("three of four rows", x, 0, 0);
        // 1 1 0 0 and 1 to come: the STORE of side 1, that of the mover of now.
        x = Due.made("20011", "sx");
        x.passes();
        Due.same("of side 1", x.reach(1), 2);
        Due.row("of side 1", x, 0, 1);
    }

    private static void luck() {
        SowingBoards x = Due.made("21100", "scx");
        Due.same("half", x.luck(1, 1), 0);
        Due.row("half", x, 1, 2);
        x.luck(4, 1);
        Due.row("fewer, if it is over", x, 1, 2);
        x.luck(4, 0);
        Due.row("sure", x, 1, 1);
        x.luck(4, 108);
        Due.row("never", x, 0, 1);
        Due.same("luck(5, 0)", x.luck(5, 0), Due.NONE);
        Due.same("luck(-1, 0)", x.luck(-1, 0), Due.NONE);
        Due.same("luck(0, 109)", x.luck(0, 109), Due.NONE);
        Due.same("luck(0, -1)", x.luck(0, -1), Due.NONE);
        Due.row("the row stays", x, 0, 1);
        x = Due.made("3111000", "sx");
        x.luck(1, 1);
        Due.row("a third", x, 1, 3);
        x.luck(2, 2);
        Due.row("not two", x, 0, 1);
        // PIT 2 brings 1 (1/2); else side 1 moves on, and one of two PITS brings it (1/4).
        x = Due.made("3101100", "s");
        x.luck(3, 1);
        Due.row("three fourths", x, 3, 4);
        x.luck(0, 0);
        Due.row("no move", x, 1, 1);
        x = Due.made("6111111111111", "");
        x.luck(4, 0);
        Due.row("all is one", x, 1, 1);
        x = Due.made("6000111000000", "sx");
        x.luck(2, 1);
        Due.row("one of three", x, 1, 3);
        x = Due.made("20011", "scx");
        x.luck(3, 0);
        Due.row("over", x, 1, 1);
        x.luck(3, 1);
        Due.row("over", x, 0, 1);
    }
}
