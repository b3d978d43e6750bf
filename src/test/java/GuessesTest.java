/** Promises 35 to 42. */
public final class GuessesTest {
    public static void main(String[] args) {
        heard();
        fits();
        asks();
        saw();
        guess();
        tries();
        Due.finish("GuessesTest");
    }

    private static void heard() {
        SowingBoards x = new SowingBoards();
        int[][] refused = {{-1, 0}, {5, 0}, {0, 2}, {0, -1}, {1, 10}, {1, -1}, {2, 10}, {2, -1}, {3, 6}, {3, -1}, {4, 2}, {4, -1}};
        for (int[] thing : refused) {
            Due.same("heard " + thing[0] + ", " + thing[1], x.heard(thing[0], thing[1]), Due.NONE);
        }
        Due.same("none", x.count(6), 0);
        int[][] fine = {{0, 0}, {0, 1}, {1, 0}, {1, 9}, {2, 0}, {2, 9}, {3, 0}, {3, 5}, {4, 0}, {4, 1}, {0, 0}, {0, 0}};
        for (int i = 0; i < 12; i++) {
            Due.same("heard", x.heard(fine[i][0], fine[i][1]), i + 1);
        }
        Due.same("a thirteenth", x.heard(0, 0), Due.NONE);
        Due.same("12", x.count(6), 12);
        Due.same("forget", x.forget(), 12);
        Due.same("forget again", x.forget(), 0);
        Due.same("forgotten", x.count(6), 0);
        Due.same("heard anew", x.heard(0, 0), 1);
    }

    private static void fitting(String board, int what, int v, int bits) {
        SowingBoards x = Due.made(board, "");
        x.heard(what, v);
        Due.same("fits " + board + " by " + what + ", " + v, x.fits(), bits);
        Due.row("fits " + board, x, Integer.bitCount(bits));
    }

    private static void fits() {
        fitting("21201", 0, 0, 3);
        fitting("21201", 0, 1, 12);
        fitting("21201", 1, 0, 15);
        fitting("21201", 1, 1, 11);
        fitting("21201", 1, 2, 2);
        fitting("21201", 1, 3, 0);
        fitting("21201", 2, 0, 15);
        fitting("21201", 2, 1, 8 + 4 + 1);
        fitting("21201", 2, 2, 4);
        fitting("21201", 3, 0, 5);
        fitting("21201", 3, 1, 10);
        fitting("21201", 3, 2, 0);
        fitting("21201", 4, 1, 3);
        fitting("21201", 4, 0, 12);
        fitting("6000000000001", 1, 1, 1 << 11);
        fitting("6000000000001", 3, 5, (1 << 5) + (1 << 11));
        SowingBoards x = Due.made("21201", "");
        Due.same("nothing heard", x.fits(), 15);
        x.heard(4, 1);
        x.passes();
        Due.same("now it is side 1", x.fits(), 12);
        x.heard(1, 1);
        Due.same("and 1 seed", x.fits(), 8);
        Due.board(x, "6123456123456");
        Due.same("heard of another board, too", x.fits(), 63);
    }

    private static void asks() {
        SowingBoards x = Due.made("21201", "");
        Due.same("two of four", x.asks(), 0);
        Due.row("two of four", x, 2);
        x.heard(0, 1);
        Due.same("1 SEED or more", x.asks(), 11);
        Due.row("1 SEED or more", x, 1);
        x.heard(1, 1);
        Due.same("one is left", x.asks(), 0);
        Due.row("one is left", x, 1);
        x.heard(0, 0);
        Due.same("none fits", x.asks(), Due.NOTHING);
        Due.row("the row stays", x, 1);
        x = Due.made("21111", "");
        x.heard(0, 0);
        Due.same("which of its side", x.asks(), 30);
        Due.row("which of its side", x, 1);
        // Of PITS 0 and 1, the opposite of PIT 0 alone has 1.
        x = Due.made("21101", "");
        x.heard(0, 0);
        Due.same("the opposite", x.asks(), 21);
        Due.row("the opposite", x, 1);
    }

    private static void saw() {
        SowingBoards x = new SowingBoards();
        int[][] refused = {{-1, 0}, {6, 0}, {0, -1}, {0, 12}, {0, 49}, {0, 51}, {6, 50}};
        for (int[] thing : refused) {
            Due.same("saw " + thing[0] + ", " + thing[1], x.saw(thing[0], thing[1]), Due.NONE);
        }
        Due.same("none", x.count(7), 0);
        for (int i = 0; i < 10; i++) {
            Due.same("saw", x.saw(i % 6, i == 9 ? Due.STORE : i + 3), i + 1);
        }
        Due.same("an eleventh", x.saw(0, 0), Due.NONE);
        Due.same("10", x.count(7), 10);
        Due.same("denies", x.denies(), 10);
        Due.same("denies again", x.denies(), 0);
        Due.same("denied", x.count(7), 0);
        Due.same("saw anew", x.saw(5, 11), 1);
    }

    private static void guessed(int p, int place, int many, long... row) {
        SowingBoards x = Due.made("21201", "scx");
        x.saw(p, place);
        Due.same("guess " + p + ", " + place, x.guess(), many);
        Due.row("guess " + p + ", " + place, x, row);
    }

    private static void guess() {
        SowingBoards x = Due.made("21201", "scx");
        Due.same("all", x.guess(), 64);
        Due.row("all", x, 0, 0);
        // By PIT 1: s 2; without s and r 3; by r alone PIT 3 is sown on to PIT 1.
        guessed(1, 2, 32, 1, 1);
        guessed(1, 3, 16, 0, 0);
        guessed(1, 1, 16, 2, 2);
        guessed(1, 0, 0);
        // By PIT 0: 1, but by r without s 0.
        guessed(0, 1, 48, 0, 0);
        guessed(0, 0, 16, 2, 2);
        guessed(0, 50, 0);
        guessed(2, 2, 0);
        x.passes();
        Due.same("of side 1", x.saw(1, 50), 1);
        Due.same("of side 1", x.guess(), 32);
        Due.row("of side 1", x, 1, 1);
        x.saw(0, 3);
        Due.same("an empty pit", x.guess(), 0);
        Due.row("an empty pit", x);
        Due.same("laws stay", x.count(5), 21);
        x.denies();
        Due.board(x, "29000");
        x.saw(0, 3);
        Due.same("by k the pit is left out", x.guess() > 0, true);
        Due.row("k, or s", x, 1, 0);
    }

    private static void tries() {
        SowingBoards x = Due.made("21201", "scx");
        Due.same("tries", x.tries(), 1);
        Due.row("tries", x, 32);
        x.saw(1, 2);
        Due.same("of equal ones the first", x.tries(), 0);
        Due.row("of equal ones the first", x, 32);
        x.saw(0, 5);
        Due.same("none is left", x.tries(), Due.NOTHING);
        x.denies();
        x.passes();
        Due.same("not the empty one", x.tries(), 1);
        Due.row("not the empty one", x, 32);
        Due.board(x, "20011");
        Due.same("over", x.tries(), Due.NOTHING);
        Due.row("the row stays", x, 32);
    }
}
