import java.util.function.Consumer;

/** Promises 46 to 49. */
public final class EdgesOfKeptTest {
    private static final int MIN = Integer.MIN_VALUE;
    private static final int MAX = Integer.MAX_VALUE;
    private static final Consumer<SowingBoards> RICH = Twins::rich;
    private static final Consumer<SowingBoards> OVER = Twins::over;

    public static void main(String[] args) {
        Edges.run(EdgesOfKeptTest.class);
    }

    // ---- promise 46

    static void promise46Numbers0And1() {
        for (int i = 0; i < 2; i++) {
            SowingBoards x = new SowingBoards();
            Due.same("keep(" + i + ")", x.keep(i), true);
            Due.same("again(" + i + ")", x.again(i), true);
            Due.same("nothing under the other one", x.again(1 - i), false);
        }
    }

    static void promise46OtherNumbersAreRefused() {
        for (int i : new int[] {MIN, -1, 2, 3, MAX}) {
            Twins.nothing("keep(" + i + ")", RICH, x -> x.keep(i) ? 1 : 0, 0);
        }
    }

    static void promise46WhatUndoBringsBack() {
        SowingBoards x = new SowingBoards();
        RICH.accept(x);
        x.keep(1);
        x.passes();
        x.adds(0, 9);
        x.plays(3);
        Due.same("again(1)", x.again(1), true);
        Due.pits("SEEDS of PITS", x, 4, 3, 2, 0, 5, 1, 1, 0);
        Due.stores("SEEDS of STORES", x, 1, 3);
        Due.same("TURN", x.count(1), 1);
        Due.same("MOVES", x.count(2), 3);
    }

    static void promise46NothingElseIsKept() {
        SowingBoards x = new SowingBoards();
        RICH.accept(x);
        x.keep(0);
        Due.laws(x, "t");
        Due.rule(x, "n");
        x.forget();
        x.denies();
        x.most();
        x.sign(0);
        long told = x.row(0);
        Due.same("again(0)", x.again(0), true);
        Due.same("LAWS", x.count(5), 32);
        Due.same("heard", x.count(6), 0);
        Due.same("seen", x.count(7), 0);
        Due.row("the ROW", x, told);
        Due.same("THE TEXT", x.count(10), 4);
        x.worth(0);
        Due.row("THE RULE", x, 5);
    }

    static void promise46KeepChangesNothingElse() {
        // keep() under a number that had the same already.
        Twins.nothing("keep(0)", x -> {
            RICH.accept(x);
            x.keep(0);
        }, x -> x.keep(0) ? 1 : 0, 1);
        Twins.nothing("keep(1), over", x -> {
            OVER.accept(x);
            x.keep(1);
        }, x -> x.keep(1) ? 1 : 0, 1);
    }

    static void promise46TheLatestUnderANumber() {
        SowingBoards x = new SowingBoards();
        x.keep(0);
        x.keep(1);
        x.adds(0, 1);
        x.keep(0);
        x.adds(0, 1);
        Due.same("again(0)", x.again(0), true);
        Due.same("pit(0)", x.pit(0), 4);
        Due.same("again(1)", x.again(1), true);
        Due.same("pit(0)", x.pit(0), 3);
    }

    // ---- promise 47

    static void promise47OtherNumbersAreRefused() {
        for (int i : new int[] {MIN, -1, 2, 3, MAX}) {
            Twins.nothing("again(" + i + ")", RICH, x -> x.again(i) ? 1 : 0, 0);
        }
    }

    static void promise47NothingKeptIsRefused() {
        for (int i = 0; i < 2; i++) {
            int number = i;
            Twins.nothing("again(" + i + ")", x -> {
                x.passes();
                x.keep(1 - number);
                x.would(0);
            }, x -> x.again(number) ? 1 : 0, 0);
        }
    }

    static void promise47AsOftenAsAsked() {
        SowingBoards x = new SowingBoards();
        x.keep(0);
        for (int i = 0; i < 3; i++) {
            x.moves(0);
            Due.same("again(0)", x.again(0), true);
            Due.pits("again(0)", x, 3, 3, 3, 3, 3, 3);
            Due.stores("again(0)", x, 0, 0);
            Due.same("MOVES", x.count(2), 0);
        }
    }

    static void promise47RefusedIfTheBoardCameSince() {
        for (int i = 0; i < 2; i++) {
            int number = i;
            Twins.nothing("again(" + i + ")", x -> {
                RICH.accept(x);
                Due.same("THE BOARD came", x.board(), 10);
                x.passes();
                x.would(0);
            }, x -> x.again(number) ? 1 : 0, 0);
            Twins.nothing("the same BOARD came, again(" + i + ")", x -> {
                Due.board(x, "21234");
                x.keep(number);
                Due.board(x, "21234");
                x.passes();
            }, x -> x.again(number) ? 1 : 0, 0);
        }
    }

    static void promise47NotRefusedIfABoardWasRefused() {
        SowingBoards x = new SowingBoards();
        RICH.accept(x);
        Due.same("no BOARD came", Due.board(x, "2123"), -5);
        Due.same("again(0)", x.again(0), true);
        Due.same("again(1)", x.again(1), true);
    }

    static void promise47KeptSinceTheBoardCame() {
        SowingBoards x = new SowingBoards();
        RICH.accept(x);
        x.board();
        x.keep(1);
        x.passes();
        Due.same("again(1)", x.again(1), true);
        Due.same("TURN", x.count(1), 0);
        Due.same("again(0)", x.again(0), false);
    }

    static void promise47SheetsAreNoBoard() {
        SowingBoards x = new SowingBoards();
        x.keep(0);
        x.sheet(2, 6, 1, 1);
        x.sheet(3, 0, 0, 0);
        Due.same("again(0)", x.again(0), true);
        Due.pits("again(0)", x, 3, 3, 3, 3, 3, 3);
    }

    static void promise47TheRowStays() {
        SowingBoards x = new SowingBoards();
        RICH.accept(x);
        Due.same("again(1)", x.again(1), true);
        Due.row("again(1)", x, 1, 7, 0);
        Due.same("THE TEXT", x.count(10), 5);
    }

    // ---- promise 48

    static void promise48AnotherWhat() {
        for (int what : new int[] {MIN, -1, 11, 12, MAX}) {
            Twins.nothing("count(" + what + ")", RICH, x -> x.count(what), Due.NONE);
        }
    }

    static void promise48EachWhat() {
        int[] counts = {4, 1, 3, 16, 0, 19, 4, 2, 4, 3, 5};
        for (int what = 0; what <= 10; what++) {
            int asked = what;
            Twins.nothing("count(" + what + ")", RICH, x -> x.count(asked), counts[what]);
        }
    }

    static void promise48Over() {
        Twins.nothing("count(4)", OVER, x -> x.count(4), 1);
        Twins.nothing("count(3)", OVER, x -> x.count(3), 0);
    }

    static void promise48TheEmptyAndTheFull() {
        SowingBoards x = new SowingBoards();
        for (int what = 6; what <= 10; what++) {
            Due.same("count(" + what + ")", x.count(what), 0);
        }
        for (int i = 0; i < 12; i++) {
            x.heard(0, 0);
            x.saw(0, 0);
            x.passes();
        }
        x.passes();
        Due.text(x, Due.times("1", 80));
        x.alone(99);
        Due.same("heard", x.count(6), 12);
        Due.same("seen", x.count(7), 10);
        Due.same("can be undone", x.count(8), 12);
        Due.same("numbers of the ROW", x.count(9), 16);
        Due.same("signs of THE TEXT", x.count(10), 80);
        Due.same("TURN", x.count(1), 1);
        Due.same("MOVES", x.count(2), 0);
    }

    static void promise48SeedsInPitsAlone() {
        SowingBoards x = Sown.board("s", 0, 0, 1, 50, 100);
        Due.same("SEEDS", x.count(3), 151);
        x.moves(1);
        Due.same("one is in the STORE", x.count(3), 150);
    }

    // ---- promise 49

    static void promise49TheFirstAndTheLastNumber() {
        SowingBoards x = new SowingBoards();
        RICH.accept(x);
        Due.same("row(0)", Due.rowOf(x, 0), 1);
        Due.same("row(1)", Due.rowOf(x, 1), 7);
        Due.same("row(2)", Due.rowOf(x, 2), 0);
    }

    static void promise49NoSuchNumber() {
        for (int i : new int[] {MIN, -1, 3, 4, 20, MAX}) {
            Twins.nothing("row(" + i + ")", RICH, x -> Due.rowOf(x, i), Due.THROWS);
        }
    }

    static void promise49NoneIfTheRowIsEmpty() {
        for (int i : new int[] {MIN, -1, 0, 1, MAX}) {
            Due.same("row(" + i + ") of a new object", Due.rowOf(new SowingBoards(), i), Due.THROWS);
            Twins.nothing("row(" + i + ") of an empty ROW", x -> {
                x.would(0);
                x.looks(0);
            }, x -> Due.rowOf(x, i), Due.THROWS);
        }
    }

    static void promise49NoneOfALongerRowTold() {
        SowingBoards x = new SowingBoards();
        x.alone(99);
        x.most();
        Due.same("row(0)", Due.rowOf(x, 0), 0);
        Due.same("row(1)", Due.rowOf(x, 1), Due.THROWS);
        Due.same("row(15)", Due.rowOf(x, 15), Due.THROWS);
    }

    static void promise49TheLongestRow() {
        SowingBoards x = new SowingBoards();
        Due.same("alone(99)", x.alone(99), 16);
        for (int i = 0; i < 16; i++) {
            Due.same("row(" + i + ")", Due.rowOf(x, i) >= 0, true);
        }
        Due.same("row(16)", Due.rowOf(x, 16), Due.THROWS);
    }
}
