import java.util.Arrays;
import java.util.NoSuchElementException;

/** Compares answers with those that are due, and counts the wrong ones. */
final class Due {
    static final int NONE = SowingBoards.NONE;
    static final int NOTHING = -2;
    static final int STORE = 50;
    // Stands for "the call throws NoSuchElementException".
    static final long THROWS = Long.MIN_VALUE;

    private static int wrong = 0;
    private static int asked = 0;
    // The test that is running, ahead of what it calls.
    private static String edge = "";

    private Due() {
    }

    static void same(String what, long got, long want) {
        asked++;
        if (got != want) {
            broken(what + " answered " + shown(got) + ", due is " + shown(want));
        }
    }

    static void broken(String how) {
        wrong++;
        System.out.println(edge + how);
    }

    static void edge(String name) {
        edge = name.isEmpty() ? "" : name + ": ";
    }

    static void same(String what, boolean got, boolean want) {
        same(what, got ? 1 : 0, want ? 1 : 0);
    }

    /** The ROW has just these numbers. */
    static void row(String what, SowingBoards x, long... want) {
        same(what + ": numbers of the ROW", x.count(9), want.length);
        for (int i = 0; i < want.length; i++) {
            same(what + ": row(" + i + ")", rowOf(x, i), want[i]);
        }
        same(what + ": row behind the last", rowOf(x, want.length), THROWS);
        same(what + ": row ahead of the first", rowOf(x, -1), THROWS);
    }

    /** The PITS have just these SEEDS. */
    static void pits(String what, SowingBoards x, int... want) {
        for (int i = 0; i < want.length; i++) {
            same(what + ": pit(" + i + ")", pitOf(x, i), want[i]);
        }
        same(what + ": pit behind the last", pitOf(x, want.length), THROWS);
    }

    static void stores(String what, SowingBoards x, int first, int second) {
        same(what + ": store(0)", storeOf(x, 0), first);
        same(what + ": store(1)", storeOf(x, 1), second);
    }

    static long rowOf(SowingBoards x, int i) {
        try {
            return x.row(i);
        } catch (NoSuchElementException e) {
            return THROWS;
        }
    }

    static long pitOf(SowingBoards x, int i) {
        try {
            return x.pit(i);
        } catch (NoSuchElementException e) {
            return THROWS;
        }
    }

    static long storeOf(SowingBoards x, int side) {
        try {
            return x.store(side);
        } catch (NoSuchElementException e) {
            return THROWS;
        }
    }

    /** Makes THE TEXT just these signs. */
    static void text(SowingBoards x, String signs) {
        x.end(0);
        for (int i = 0; i < signs.length(); i += 4) {
            int v = 0;
            for (int j = i; j < i + 4; j++) {
                v = v << 8 | (j < signs.length() ? signs.charAt(j) & 255 : 0);
            }
            x.sign(v);
        }
        x.end(signs.length());
    }

    static int board(SowingBoards x, String signs) {
        text(x, signs);
        return x.board();
    }

    static int laws(SowingBoards x, String signs) {
        text(x, signs);
        return x.laws();
    }

    static int rule(SowingBoards x, String signs) {
        text(x, signs);
        return x.rule();
    }

    static int game(SowingBoards x, String signs) {
        text(x, signs);
        return x.game();
    }

    static int comes(SowingBoards x, String signs) {
        text(x, signs);
        return x.comes();
    }

    static int other(SowingBoards x, String signs) {
        text(x, signs);
        return x.other();
    }

    static SowingBoards made(String boardSigns, String lawSigns) {
        SowingBoards x = new SowingBoards();
        same("board " + boardSigns, board(x, boardSigns) >= 0, true);
        same("laws " + lawSigns, laws(x, lawSigns), lawSigns.length());
        return x;
    }

    /** So many numbers, all the same. */
    static int[] counted(int many, int number) {
        int[] all = new int[many];
        Arrays.fill(all, number);
        return all;
    }

    static String times(String signs, int n) {
        StringBuilder all = new StringBuilder();
        for (int i = 0; i < n; i++) {
            all.append(signs);
        }
        return all.toString();
    }

    private static String shown(long answer) {
        return answer == THROWS ? "throws.NoSuchElementException" : Long.toString(answer);
    }

    static void finish(String test) {
        System.out.println(test + ": " + asked + " answers, " + wrong + " wrong");
        if (wrong != 0) {
            System.exit(1);
        }
    }
}
