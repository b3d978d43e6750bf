import java.util.function.Consumer;

/** Promises 33 and 34. */
public final class EdgesAloneTest {
    private static final int MIN = Integer.MIN_VALUE;
    private static final int MAX = Integer.MAX_VALUE;
    private static final Consumer<SowingBoards> RICH = Twins::rich;

    public static void main(String[] args) {
        Edges.run(EdgesAloneTest.class);
    }

    // ---- promise 33

    static void promise33NoSeedNeedsNoPit() {
        Twins.rowAlone("alone(0)", RICH, x -> x.alone(0), 0);
    }

    static void promise33OneSeed() {
        Twins.rowAlone("alone(1)", RICH, x -> x.alone(1), 1, 1);
        Twins.rowAlone("alone(2)", RICH, x -> x.alone(2), 2, 0, 2);
    }

    static void promise33From0To99Seeds() {
        for (int n = 0; n <= 99; n++) {
            SowingBoards x = new SowingBoards();
            long[] row = row(n);
            Due.same("alone(" + n + ")", x.alone(n), row.length);
            Due.row("alone(" + n + ")", x, row);
        }
    }

    /** Of PITS from i on so many are lifted in all: the ones from i + 1 on bring as many SEEDS to PIT i. */
    private static long[] row(int n) {
        long[] seeds = new long[n];
        int pits = 0;
        for (int i = 1, lifts = n; lifts > 0; i++) {
            seeds[i - 1] = i * lifts % (i + 1);
            lifts = i * lifts / (i + 1);
            pits = i;
        }
        return java.util.Arrays.copyOf(seeds, pits);
    }

    static void promise33WhatWasAskedAheadDoesNotMatter() {
        SowingBoards x = new SowingBoards();
        for (int n = 99; n >= 0; n--) {
            x = n % 5 == 0 ? new SowingBoards() : x;
            long[] row = row(n);
            Due.same("alone(" + n + ")", x.alone(n), row.length);
            Due.row("alone(" + n + ")", x, row);
            Due.comes(x, Due.times("9", 20));
            x.tries();
        }
    }

    static void promise34WhatWasAskedAheadDoesNotMatter() {
        SowingBoards x = new SowingBoards();
        for (int i = 0; i < 5; i++) {
            Due.same("12", Due.comes(x, "12"), 3);
            Due.row("12", x, 3, 0);
            Due.same("twenty", Due.comes(x, "1" + Due.times("0", 19)), 1);
            Due.row("twenty", x, 1, 0);
            Due.comes(x, Due.times("9", 20));
            x.alone(99);
        }
        for (int n = 0; n <= 99; n++) {
            x = new SowingBoards();
            x.alone(n);
            Due.same("2 behind alone(" + n + ")", Due.comes(x, "2"), 0);
            Due.row("2 behind alone(" + n + ")", x, 0, 2);
        }
    }

    static void promise33AnotherNumberIsRefused() {
        for (int n : new int[] {MIN, -1, 100, 101, MAX}) {
            Twins.nothing("alone(" + n + ")", RICH, x -> x.alone(n), Due.NONE);
        }
    }

    // ---- promise 34

    private static void comes(String row, int lifted, int left) {
        SowingBoards x = new SowingBoards();
        Due.same("comes " + row, Due.comes(x, row), lifted);
        Due.row("comes " + row, x, lifted, left);
        Due.same("THE TEXT is read", x.count(10), 0);
    }

    private static void wrong(String row, int place) {
        Twins.textAlone("comes " + row, x -> {
            RICH.accept(x);
            Due.text(x, row);
        }, x -> x.comes(), -1 - place);
    }

    static void promise34OneDigitIsTheLeast() {
        comes("0", 0, 0);
        comes("1", 1, 0);
        comes("2", 0, 2);
        comes("9", 0, 9);
    }

    static void promise34ItsEndForNone() {
        wrong("", 0);
    }

    static void promise34TwentyDigitsAreTheMost() {
        comes("1" + Due.times("0", 18), 1, 0);
        comes("1" + Due.times("0", 19), 1, 0);
        comes(Due.times("0", 19) + "9", 0, 9);
        comes(Due.times("9", 20), 1, 179);
    }

    static void promise34ATwentyFirstIsToldAtIt() {
        wrong(Due.times("1", 21), 20);
        wrong(Due.times("1", 80), 20);
        wrong(Due.times("1", 20) + "x", 20);
        wrong(Due.times("1", 20) + "\0", 20);
    }

    static void promise34AWrongSignIsToldFirst() {
        wrong(Due.times("1", 19) + "x1", 19);
        wrong("x" + Due.times("1", 20), 0);
    }

    static void promise34EachSignThatIsNoDigit() {
        for (char sign = 0; sign < 256; sign++) {
            if (sign < '0' || sign > '9') {
                wrong("" + sign, 0);
                wrong("12" + sign, 2);
            }
        }
    }

    static void promise34APitThatHasJustAsManySeedsAsItsNumber() {
        comes("01", 0, 1);
        comes("02", 2, 0);
        comes("03", 0, 3);
        // PIT 9 is the last one that a digit can fill: then PIT 1 can be lifted.
        comes("000000009", 2, 7);
        comes("0000000009", 0, 9);
    }

    static void promise34EachTimeTheLeastPit() {
        // 0 2 3, 1 0 3, 0 0 3, 1 1 0, 0 1 0; by PIT 3 first it would be 2 3 0.
        comes("123", 5, 1);
        comes("12", 3, 0);
    }

    static void promise34TillNoneCan() {
        for (int n = 0; n <= 30; n++) {
            StringBuilder row = new StringBuilder();
            for (long seeds : row(n)) {
                row.append(seeds);
            }
            if (n > 0) {
                comes(row.toString(), n, 0);
            }
        }
    }

    static void promise34TheBoardStays() {
        SowingBoards x = new SowingBoards();
        RICH.accept(x);
        Due.comes(x, "123");
        Due.pits("comes", x, 4, 3, 2, 0, 5, 1, 1, 0);
        Due.same("can be undone", x.count(8), 4);
    }
}
