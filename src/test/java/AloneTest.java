/** Promises 33 and 34. */
public final class AloneTest {
    public static void main(String[] args) {
        alone();
        comes();
        both();
        Due.finish("AloneTest");
    }

    private static void alone() {
        SowingBoards x = new SowingBoards();
        Due.same("alone(0)", x.alone(0), 0);
        Due.row("alone(0)", x);
        long[][] rows = {{1}, {0, 2}, {1, 2}, {0, 1, 3}, {1, 1, 3}, {0, 0, 2, 4}, {1, 0, 2, 4}, {0, 2, 2, 4}, {1, 2, 2, 4},
            {0, 1, 1, 3, 5}, {1, 1, 1, 3, 5}, {0, 0, 0, 2, 4, 6}};
        for (int n = 1; n <= rows.length; n++) {
            Due.same("alone(" + n + ")", x.alone(n), rows[n - 1].length);
            Due.row("alone(" + n + ")", x, rows[n - 1]);
        }
        Due.same("alone(100)", x.alone(100), Due.NONE);
        Due.same("alone(-1)", x.alone(-1), Due.NONE);
        Due.row("the row stays", x, rows[rows.length - 1]);
        Due.same("changes nothing", x.count(3), 18);
        for (int n = 0; n <= 99; n++) {
            x = new SowingBoards();
            int pits = x.alone(n);
            Due.same("pits of " + n, x.count(9), pits);
            long sum = 0;
            for (int i = 0; i < pits; i++) {
                sum += x.row(i);
                Due.same("no pit has more than its number", x.row(i) <= i + 1, true);
            }
            Due.same("seeds of " + n, sum, n);
        }
    }

    private static void comes(SowingBoards x, String row, int lifted, int left) {
        Due.same("comes " + row, Due.comes(x, row), lifted);
        Due.row("comes " + row, x, lifted, left);
        Due.same("the text is read", x.count(10), 0);
    }

    private static void comes() {
        SowingBoards x = new SowingBoards();
        comes(x, "0", 0, 0);
        comes(x, "1", 1, 0);
        comes(x, "2", 0, 2);
        comes(x, "12", 3, 0);
        comes(x, "22", 1, 3);
        comes(x, "013", 4, 0);
        // 1 2 3, 0 2 3, 1 0 3, 0 0 3, 1 1 0, 0 1 0; by PIT 3 first it would be 2 3 0.
        comes(x, "123", 5, 1);
        comes(x, "024", 2, 4);
        comes(x, "1" + Due.times("0", 19), 1, 0);
        comes(x, Due.times("9", 20), 1, 179);
        Due.same("none", Due.comes(x, ""), -1);
        Due.same("a letter", Due.comes(x, "12x4"), -3);
        Due.same("21 digits", Due.comes(x, Due.times("1", 21)), -21);
        Due.same("21 digits and a wrong one", Due.comes(x, "1x" + Due.times("1", 21)), -2);
        Due.same("20 and a wrong one", Due.comes(x, Due.times("1", 20) + "x"), -21);
        Due.same("the text is read", x.count(10), 0);
        Due.row("the row stays", x, 1, 179);
    }

    /** What alone() tells comes out by comes(), as far as digits can tell it. */
    private static void both() {
        for (int n = 1; n <= 99; n++) {
            SowingBoards x = new SowingBoards();
            StringBuilder row = new StringBuilder();
            boolean digits = true;
            int pits = x.alone(n);
            for (int i = 0; i < pits; i++) {
                digits = digits && x.row(i) <= 9;
                row.append((char) ('0' + x.row(i)));
            }
            if (digits) {
                comes(x, row.toString(), n, 0);
            }
        }
    }
}
