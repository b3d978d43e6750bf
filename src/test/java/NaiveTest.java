import java.util.Random;

/** All promises: runs of calls drawn by seeds, answered by SowingBoards as by Naive. */
public final class NaiveTest {
    // What later calls of an object answer is free.
    private static final int CALLS = 512;
    // As many as one turn of calls() can make, and the last look at all.
    private static final int MOST_AT_ONCE = 80;

    private final int run;
    private final Random random;
    private final SowingBoards x = new SowingBoards();
    private final Naive y = new Naive();
    private int called;

    private NaiveTest(int run) {
        this.run = run;
        this.random = new Random(run);
    }

    public static void main(String[] args) {
        int runs = args.length > 0 ? Integer.parseInt(args[0]) : 3000;
        for (int run = 0; run < runs; run++) {
            new NaiveTest(run).calls();
        }
        Due.finish("NaiveTest");
    }

    private void calls() {
        int i = 0;
        for (; called < CALLS - MOST_AT_ONCE; i++) {
            one(i);
            state(i);
        }
        counts(i);
        seeds(i);
        numbers(i);
    }

    private SowingBoards x() {
        called++;
        return x;
    }

    private int below(int n) {
        return random.nextInt(n);
    }

    /** Mostly from..to, at times a little or far outside. */
    private int about(int from, int to) {
        int kind = below(12);
        if (kind == 0) {
            return from - 1 - below(3);
        }
        if (kind == 1) {
            return to + 1 + below(3);
        }
        if (kind == 2 && below(4) == 0) {
            return random.nextInt();
        }
        return from + below(to - from + 1);
    }

    private String signs(String from, int n) {
        StringBuilder signs = new StringBuilder();
        for (int i = 0; i < n; i++) {
            signs.append(below(60) == 0 ? (char) below(256) : from.charAt(below(from.length())));
        }
        return signs.toString();
    }

    private String expression(int deep) {
        int kind = below(10);
        if (deep > 5 || kind < 3) {
            return signs("tapnleo", 1);
        }
        if (kind < 4) {
            return Integer.toString(below(below(3) == 0 ? 1200 : 12));
        }
        if (kind < 6) {
            return "(" + expression(deep + 1) + ")";
        }
        if (kind < 7) {
            return "-" + expression(deep + 1);
        }
        return expression(deep + 1) + signs("<>=++--*/", 1) + expression(deep + 1);
    }

    private String broken(String text) {
        int kind = below(8);
        if (kind == 0 && !text.isEmpty()) {
            return text.substring(0, below(text.length() + 1));
        }
        if (kind == 1) {
            int at = below(text.length() + 1);
            return text.substring(0, at) + signs("tapnleo0123456789()<>=+-*/srckx~", 1) + text.substring(at);
        }
        return text;
    }

    private void tellText(int i, String told) {
        String text = told.length() > 80 ? told.substring(0, 80) : told;
        Due.same(name(i, "end(0)"), x().end(0), y.end(0));
        for (int at = 0; at < text.length(); at += 4) {
            int v = 0;
            for (int j = at; j < at + 4; j++) {
                v = v * 256 + (j < text.length() ? text.charAt(j) : below(256));
            }
            Due.same(name(i, "sign(" + v + ")"), x().sign(v), y.sign(v));
        }
        Due.same(name(i, "end"), x().end(text.length()), y.end(text.length()));
    }

    private String name(int i, String call) {
        return "run " + run + ", call " + i + ": " + call;
    }

    private String lawText() {
        StringBuilder letters = new StringBuilder("srckxt");
        StringBuilder text = new StringBuilder();
        for (int n = below(7); n > 0; n--) {
            int at = below(letters.length());
            text.append(letters.charAt(at));
            letters.deleteCharAt(at);
        }
        return text.toString();
    }

    private String boardText() {
        int columns = 2 + below(5);
        String[] digits = {"0123456789", "00001", "0012", "123", "3", "0000000019"};
        return columns + signs(digits[below(digits.length)], 2 * columns);
    }

    private void one(int i) {
        int kind = below(64);
        if (kind < 12) {
            int p = about(0, 5);
            Due.same(name(i, "moves(" + p + ")"), x().moves(p), y.moves(p));
        } else if (kind < 18) {
            told(i, kind - 12);
        } else if (kind < 30) {
            changed(i, kind - 18);
        } else if (kind < 42) {
            asked(i, kind - 30);
        } else if (kind < 54) {
            looked(i, kind - 42);
        } else {
            guessed(i, kind - 54);
        }
    }

    private void told(int i, int kind) {
        switch (kind) {
            case 0:
                tellText(i, broken(boardText()));
                Due.same(name(i, "board()"), x().board(), y.board());
                break;
            case 1:
                tellText(i, broken(lawText()));
                Due.same(name(i, "laws()"), x().laws(), y.laws());
                break;
            case 2:
                String rule = broken(below(8) == 0 ? "" : expression(0));
                tellText(i, rule);
                Due.same(name(i, "rule() of " + rule), x().rule(), y.rule());
                break;
            case 3:
                tellText(i, broken(signs("012345*/**", below(below(4) == 0 ? 70 : 8))));
                Due.same(name(i, "game()"), x().game(), y.game());
                break;
            case 4:
                String other = broken(below(8) == 0 ? "" : expression(0));
                tellText(i, other);
                Due.same(name(i, "other() of " + other), x().other(), y.other());
                break;
            default:
                tellText(i, broken(signs(below(2) == 0 ? "0123456789" : "012", below(23))));
                Due.same(name(i, "comes()"), x().comes(), y.comes());
                break;
        }
    }

    private void changed(int i, int kind) {
        int a = about(0, 2 * x().count(0) - 1);
        int b = about(1, 9);
        int seed = random.nextInt();
        switch (kind) {
            case 0:
                int n = about(1, below(3) == 0 ? 60 : 4);
                Due.same(name(i, "plays(" + n + ")"), x().plays(n), y.plays(n));
                break;
            case 1:
                Due.same(name(i, "passes()"), x().passes(), y.passes());
                break;
            case 2:
            case 3:
                Due.same(name(i, "adds(" + a + ", " + b + ")"), x().adds(a, b), y.adds(a, b));
                break;
            case 4:
                int sheetKind = about(0, 3);
                int entries = about(0, 12);
                int f = below(2) == 0 ? about(0, 9) : seed;
                int step = below(2) == 0 ? about(-2, 2) : random.nextInt();
                Due.same(name(i, "sheet"), x().sheet(sheetKind, entries, f, step), y.sheet(sheetKind, entries, f, step));
                break;
            case 5:
            case 6:
            case 7:
                Due.same(name(i, "undo()"), x().undo(), y.undo());
                break;
            case 8:
                int k = about(0, 1);
                Due.same(name(i, "keep(" + k + ")"), x().keep(k), y.keep(k));
                break;
            case 9:
                int l = about(0, 1);
                Due.same(name(i, "again(" + l + ")"), x().again(l), y.again(l));
                break;
            case 10:
                int m = about(1, 60);
                Due.same(name(i, "years(" + seed + ", " + m + ")"), x().years(seed, m), y.years(seed, m));
                break;
            default:
                Due.same(name(i, "sign"), x().sign(seed), y.sign(seed));
                int cut = about(0, 80);
                Due.same(name(i, "end"), x().end(cut), y.end(cut));
                break;
        }
    }

    private void asked(int i, int kind) {
        int p = about(0, x().count(0) - 1);
        switch (kind) {
            case 0:
                Due.same(name(i, "would(" + p + ")"), x().would(p), y.would(p));
                break;
            case 1:
                Due.same(name(i, "worth(" + p + ")"), x().worth(p), y.worth(p));
                break;
            case 2:
                Due.same(name(i, "best()"), x().best(), y.best());
                break;
            case 3:
                Due.same(name(i, "most()"), x().most(), y.most());
                break;
            case 4:
                Due.same(name(i, "chain()"), x().chain(), y.chain());
                break;
            case 5:
                Due.same(name(i, "longest()"), x().longest(), y.longest());
                break;
            case 6:
                Due.same(name(i, "threat()"), x().threat(), y.threat());
                break;
            case 7:
                Due.same(name(i, "risks(" + p + ")"), x().risks(p), y.risks(p));
                break;
            case 8:
                Due.same(name(i, "starves()"), x().starves(), y.starves());
                break;
            case 9:
                int n = about(0, 99);
                Due.same(name(i, "alone(" + n + ")"), x().alone(n), y.alone(n));
                break;
            case 10:
                int v = about(0, 20);
                Due.same(name(i, "bids(" + v + ")"), x().bids(v), y.bids(v));
                break;
            default:
                int what = about(0, 10);
                Due.same(name(i, "count(" + what + ")"), x().count(what), y.count(what));
                break;
        }
    }

    private void looked(int i, int kind) {
        int pit = about(0, 2 * x().count(0) - 1);
        int n = about(0, below(6) == 0 ? 4 : 2);
        switch (kind) {
            case 0:
                Due.same(name(i, "looks(" + n + ")"), x().looks(n), y.looks(n));
                break;
            case 1:
                Due.same(name(i, "ways(" + pit + ", " + n + ")"), x().ways(pit, n), y.ways(pit, n));
                break;
            case 2:
                Due.same(name(i, "reach(" + n + ")"), x().reach(n), y.reach(n));
                break;
            case 3:
                int g = below(3) == 0 ? about(0, 108) : x().store(0) + below(4);
                Due.same(name(i, "luck(" + n + ", " + g + ")"), x().luck(n, g), y.luck(n, g));
                break;
            case 4:
            case 5:
                Due.same(name(i, "when(" + pit + ")"), x().when(pit), y.when(pit));
                break;
            case 6:
            case 7:
                Due.same(name(i, "ends()"), x().ends(), y.ends());
                break;
            case 8:
            case 9:
                Due.same(name(i, "round()"), x().round(), y.round());
                break;
            default:
                int m = about(0, 60);
                Due.same(name(i, "fullest(" + m + ")"), x().fullest(m), y.fullest(m));
                break;
        }
    }

    private void guessed(int i, int kind) {
        switch (kind) {
            case 0:
            case 1:
                int what = about(0, 4);
                int v = about(0, below(2) == 0 ? 2 : 9);
                Due.same(name(i, "heard(" + what + ", " + v + ")"), x().heard(what, v), y.heard(what, v));
                break;
            case 2:
                Due.same(name(i, "fits()"), x().fits(), y.fits());
                break;
            case 3:
                Due.same(name(i, "asks()"), x().asks(), y.asks());
                break;
            case 4:
                if (below(3) == 0) {
                    Due.same(name(i, "forget()"), x().forget(), y.forget());
                }
                break;
            case 5:
            case 6:
                int p = about(0, 5);
                int place = below(3) == 0 ? 50 : about(0, 11);
                // Mostly what is so by some LAWS, or next to nothing would be left.
                if (below(4) != 0 && x().would(p) >= 0) {
                    y.would(p);
                    place = (int) x().row(1);
                }
                Due.same(name(i, "saw(" + p + ", " + place + ")"), x().saw(p, place), y.saw(p, place));
                break;
            case 7:
                Due.same(name(i, "guess()"), x().guess(), y.guess());
                break;
            case 8:
                Due.same(name(i, "tries()"), x().tries(), y.tries());
                break;
            default:
                Due.same(name(i, "denies()"), x().denies(), y.denies());
                break;
        }
    }

    /** A part of what can be asked behind each call, so that a run has more of other calls. */
    private void state(int i) {
        int part = below(8);
        if (part == 0) {
            counts(i);
        } else if (part == 1) {
            seeds(i);
        } else if (part < 5) {
            numbers(i);
        }
    }

    private void counts(int i) {
        for (int what = 0; what <= 10; what++) {
            Due.same(name(i, "then count(" + what + ")"), x().count(what), y.count(what));
        }
    }

    private void seeds(int i) {
        int columns = x().count(0);
        for (int pit = 0; pit < 2 * columns; pit++) {
            Due.same(name(i, "then pit(" + pit + ")"), x().pit(pit), y.pit(pit));
        }
        Due.same(name(i, "then store(0)"), x().store(0), y.store(0));
        Due.same(name(i, "then store(1)"), x().store(1), y.store(1));
    }

    private void numbers(int i) {
        int numbers = x().count(9);
        Due.same(name(i, "then count(9)"), numbers, y.count(9));
        for (int n = 0; n < numbers; n++) {
            Due.same(name(i, "then row(" + n + ")"), x().row(n), y.row(n));
        }
    }
}
