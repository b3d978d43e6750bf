import java.util.ArrayList;
import java.util.List;
import java.util.function.Consumer;

/** Promises 43 to 45. */
public final class EdgesOfBidsRulesYearsTest {
    private static final int MIN = Integer.MIN_VALUE;
    private static final int MAX = Integer.MAX_VALUE;
    private static final Consumer<SowingBoards> RICH = Twins::rich;
    private static final Consumer<SowingBoards> OVER = Twins::over;

    public static void main(String[] args) {
        Edges.run(EdgesOfBidsRulesYearsTest.class);
    }

    // ---- promise 43

    /** What one has who bids so against another bid. */
    private static int has(int bid, int against, int v) {
        if (bid > against) {
            return v - bid;
        }
        return bid < against ? bid / 2 : v / 3 - 1;
    }

    private static boolean content(int bid, int against, int v) {
        for (int better = 0; better <= 9; better++) {
            if (has(better, against, v) > has(bid, against, v)) {
                return false;
            }
        }
        return true;
    }

    static void promise43From0To20() {
        for (int v = 0; v <= 20; v++) {
            List<Integer> pairs = new ArrayList<>();
            for (int pair = 0; pair < 100; pair++) {
                if (content(pair / 10, pair % 10, v) && content(pair % 10, pair / 10, v)) {
                    pairs.add(pair);
                }
            }
            int worth = v;
            Twins.rowAlone("bids(" + v + ")", RICH, x -> x.bids(worth), pairs.size(), pairs.get(0) / 10, pairs.get(0) % 10);
        }
    }

    static void promise43AnotherWorthIsRefused() {
        for (int v : new int[] {MIN, -1, 21, 22, MAX}) {
            Twins.nothing("bids(" + v + ")", RICH, x -> x.bids(v), Due.NONE);
        }
    }

    static void promise43NineIsTheMostThatIsBid() {
        // Each has 6 - 1; by 10 one would have 10.
        Twins.rowAlone("bids(20)", RICH, x -> x.bids(20), 1, 9, 9);
        Twins.rowAlone("bids(18)", RICH, x -> x.bids(18), 1, 9, 9);
    }

    static void promise43NothingIsTheLeastThatIsBid() {
        // 0 0 (-1 each, and by 1 as well), 0 1 and 1 0.
        Twins.rowAlone("bids(0)", RICH, x -> x.bids(0), 3, 0, 0);
    }

    static void promise43LikeOnesHaveAThirdCutAndPay1() {
        // 1 2, 2 1, 2 2, 2 3, 3 2: a third of 3 less 1 is 0, as is a half of 1; a third of 2 less 1 is -1.
        Twins.rowAlone("bids(3)", RICH, x -> x.bids(3), 5, 1, 2);
        Twins.rowAlone("bids(2)", RICH, x -> x.bids(2), 4, 0, 1);
    }

    // ---- promise 44 (which texts: EdgesOfTheRuleTest)

    /** By s and p each SEED is brought home alone: side 0 has one by MOVE 9 and 21, side 1 by MOVE 8 and 20. */
    private static SowingBoards homeward() {
        SowingBoards x = Sown.board("s", 0, 1, 1, 0, 0, 0, 0, 1, 0, 1, 0, 0, 0);
        Due.rule(x, "p");
        return x;
    }

    static void promise44TwentyMoves() {
        SowingBoards x = homeward();
        Due.same("other()", Due.other(x, "p"), 600);
        Due.row("1 and 2", x, 299, 299);
        x.plays(19);
        Due.stores("behind 19 MOVES", x, 1, 1);
        x.plays(1);
        Due.stores("behind 20 MOVES", x, 1, 2);
        x.plays(1);
        Due.stores("behind 21 MOVES", x, 2, 2);
    }

    static void promise44FewerIfItIsOver() {
        SowingBoards x = Due.made("21100", "scx");
        Due.same("other()", Due.other(x, "-t"), 599);
        Due.row("over behind one, behind two", x, 300, 301);
        for (String rule : new String[] {"", "p", "-p"}) {
            x = new SowingBoards();
            OVER.accept(x);
            Due.same("over, other " + rule, Due.other(x, rule), 600);
            Due.row("over: 1 and 3", x, 298, 298);
        }
    }

    static void promise44MoreThan300Behind() {
        SowingBoards x = Sown.farBehind();
        Due.same("both are as far behind", Due.other(x, "p"), 600);
        Due.row("300 and 0 - 310, twice", x, -10, -10);
    }

    static void promise44Side0PlaysByItAndSide1ByTheRule() {
        for (int side = 0; side < 2; side++) {
            Due.same("by it", ahead(unlike(side), "p", "-p"), 3);
            Due.same("as it is", ahead(unlike(side), "-p", "-p"), 1);
            Due.same("the other way round", ahead(unlike(side), "-p", "p"), side == 0 ? -4 : -2);
            SowingBoards x = unlike(side);
            Due.rule(x, "-p");
            Due.same("side 0 by p, TURN of side " + side, Due.other(x, "p"), 602);
            Due.row("side 0 by p, TURN of side " + side, x, 303, 301);
        }
    }

    /** A board that is another one behind 20 MOVES, if one side plays by p, the other by -p, or both by one of them. */
    private static SowingBoards unlike(int side) {
        SowingBoards x = Due.made("3221303", "s");
        if (side == 1) {
            x.passes();
        }
        return x;
    }

    /** By how much side 0 is ahead behind 20 MOVES. */
    private static int ahead(SowingBoards x, String ofSide0, String ofSide1) {
        for (int i = 0; i < 20; i++) {
            Due.rule(x, x.count(1) == 0 ? ofSide0 : ofSide1);
            x.plays(1);
        }
        return x.store(0) - x.store(1);
    }

    static void promise44AnEmptyTextIsNone() {
        SowingBoards x = Sown.board("s", 0, 0, 1, 1, 0, 0, 0);
        Due.rule(x, "-t");
        // By none PIT 2 brings 1, then it is over; by -t PIT 1 comes to PIT 2, then it is over.
        Due.same("other()", Due.other(x, ""), 601);
        Due.row("other()", x, 301, 300);
    }

    static void promise44AWrongSignChangesNothing() {
        String[] rules = {"x", "1+", "1<2<3", "1000", Due.times("-", 40) + "1", Due.times("-", 40)};
        int[] places = {0, 2, 3, 3, 40, 40};
        for (int i = 0; i < rules.length; i++) {
            String rule = rules[i];
            Twins.textAlone("other " + rule, x -> {
                RICH.accept(x);
                Due.text(x, rule);
            }, x -> x.other(), -1 - places[i]);
        }
    }

    static void promise44TheRuleStays() {
        SowingBoards x = Due.made("21201", "scx");
        Due.rule(x, "n");
        Due.other(x, "p*9");
        x.worth(1);
        Due.row("n", x, 2);
        Due.other(x, "1+");
        x.worth(1);
        Due.row("n", x, 2);
    }

    // ---- promise 45

    /** What years() tells, drawn here, with the MOVES made by moves() and plays(). */
    private static void drawn(String board, String laws, int side, int seed, int n) {
        SowingBoards x = Due.made(board, laws);
        SowingBoards asked = Due.made(board, laws);
        if (side == 1) {
            x.passes();
            asked.passes();
        }
        int columns = x.count(0);
        int r = seed;
        int made = 0;
        for (int i = 0; i < n && x.count(4) == 0; i++) {
            r = r * 1103515245 + 12345;
            if (Integer.toUnsignedLong(r) / 65536 % 3 == 2) {
                x.plays(1);
            } else {
                List<Integer> full = new ArrayList<>();
                int first = x.count(1) * columns;
                for (int p = 0; p < columns; p++) {
                    if (x.pit(first + p) > 0) {
                        full.add(p);
                    }
                }
                r = r * 1103515245 + 12345;
                x.moves(full.get((int) (Integer.toUnsignedLong(r) / 65536 % full.size())));
            }
            made++;
        }
        Due.same("years(" + seed + ", " + n + ")", asked.years(seed, n), 300 + x.store(0) - x.store(1));
        Due.row("years(" + seed + ", " + n + ")", asked, made, x.count(1));
    }

    static void promise45From1To60() {
        for (int n : new int[] {1, 2, 3, 58, 59, 60}) {
            for (int seed = 0; seed < 8; seed++) {
                drawn("29999", "scx", 0, seed, n);
                // Without LAWS it is seldom over: all MOVES are made.
                drawn("29999", "", 0, seed, n);
            }
        }
        SowingBoards x = Due.made("29999", "");
        Due.same("years(3, 60)", x.years(3, 60), 300);
        Due.row("60 MOVES", x, 60, 0);
    }

    static void promise45AnotherNumberIsRefused() {
        for (int n : new int[] {MIN, -1, 0, 61, 62, MAX}) {
            Twins.nothing("years(1, " + n + ")", RICH, x -> x.years(1, n), Due.NONE);
            Twins.nothing("over, years(1, " + n + ")", OVER, x -> x.years(1, n), Due.NONE);
        }
    }

    static void promise45AnySeed() {
        for (int seed : new int[] {MIN, MIN + 1, -1, 0, 1, 65535, 65536, MAX}) {
            drawn("29999", "scx", 0, seed, 20);
            drawn("3333333", "sr", 0, seed, 20);
        }
    }

    static void promise45WithoutSign() {
        // About half of the DRAWS have an R below 0 as an int.
        for (int seed = -40; seed < 0; seed++) {
            drawn("6123456654321", "s", 0, seed, 4);
        }
    }

    static void promise45NothingIfItIsOver() {
        for (int n : new int[] {1, 60}) {
            Twins.rowAlone("over, years(7, " + n + ")", OVER, x -> x.years(7, n), 298, 0, 1);
        }
    }

    static void promise45MoreThan300Behind() {
        SowingBoards x = Sown.farBehind();
        Due.same("300 and 0 - 310", x.years(1, 1), -10);
        Due.row("no MOVE", x, 0, 0);
    }

    static void promise45OverFirst() {
        for (int seed = 0; seed < 20; seed++) {
            drawn("21100", "scx", 0, seed, 60);
            drawn("21201", "scx", 0, seed, 60);
        }
    }

    static void promise45PitsThatAreNotEmptyFromTheFirstOn() {
        for (int seed = 0; seed < 20; seed++) {
            drawn("6010011110010", "", 0, seed, 1);
            drawn("6010011110010", "", 0, seed, 2);
        }
    }

    static void promise45TheStoreOfSide0ThoughTheMoverIsSide1() {
        for (int seed = 0; seed < 10; seed++) {
            drawn("29999", "scx", 1, seed, 5);
        }
    }
}
