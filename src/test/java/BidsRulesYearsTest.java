/** Promises 43 to 45. */
public final class BidsRulesYearsTest {
    public static void main(String[] args) {
        bids();
        other();
        years();
        Due.finish("BidsRulesYearsTest");
    }

    private static void bids() {
        SowingBoards x = new SowingBoards();
        Due.same("worth nothing", x.bids(0), 3);
        Due.row("worth nothing", x, 0, 0);
        // 1 2, 2 1, 2 2, 2 3, 3 2: who has it has 1 or 0, a third of 3 less 1 is 0.
        Due.same("worth 3", x.bids(3), 5);
        Due.row("worth 3", x, 1, 2);
        // Who bids less than 9 has 4 at most, like ones of 9 have 6 - 1.
        Due.same("worth 20", x.bids(20), 1);
        Due.row("worth 20", x, 9, 9);
        int[] many = {3, 2, 4, 5, 2, 4, 5, 2, 4, 5, 2, 4, 5, 2, 2, 3, 3, 3, 1, 1, 1};
        for (int v = 0; v <= 20; v++) {
            Due.same("bids(" + v + ")", x.bids(v), many[v]);
        }
        Due.same("bids(21)", x.bids(21), Due.NONE);
        Due.same("bids(-1)", x.bids(-1), Due.NONE);
        Due.row("the row stays", x, 9, 9);
    }

    private static void other() {
        SowingBoards x = Due.made("21201", "scx");
        Due.same("as in the tests that are shared", Due.other(x, "0"), 601);
        Due.row("by it first", x, 299, 298);
        Due.same("the text is read", x.count(10), 0);
        Due.pits("changes nothing", x, 1, 2, 0, 1);
        Due.same("no rule", Due.other(x, ""), 600);
        Due.row("no rule", x, 298, 298);
        Due.same("a wrong sign", Due.other(x, "t+x"), -3);
        Due.same("its end", Due.other(x, "t+"), -3);
        Due.same("more than 40", Due.other(x, Due.times("1+", 20) + "1"), -41);
        Due.row("the row stays", x, 298, 298);
        Due.same("the text is read", x.count(10), 0);
        Due.same("the rule stays", x.best(), 1);
        Due.rule(x, "0");
        Due.same("side 1 plays by the rule", Due.other(x, "0"), 600);
        x = Due.made("20100", "scx");
        Due.same("one move", Due.other(x, "p"), 600);
        Due.row("one move", x, 301, 301);
        x = Due.made("21100", "scx");
        // By -t PIT 0 is sown and it is over, with nothing in the STORE.
        Due.same("worse", Due.other(x, "-t"), 599);
        Due.row("worse", x, 300, 301);
        x.passes();
        Due.same("over", Due.other(x, "-t"), 600);
        Due.row("over", x, 300, 300);
        twenty();
    }

    /** What 20 MOVES bring, made one by one. */
    private static void twenty() {
        SowingBoards x = Due.made("21001", "");
        Due.rule(x, "p");
        Due.same("no laws", Due.other(x, "0"), 600);
        Due.row("no laws", x, 300, 300);
        for (int seeds = 1; seeds <= 9; seeds++) {
            x = new SowingBoards();
            Due.laws(x, "s");
            Due.board(x, "6" + Due.times(Integer.toString(seeds), 12));
            int byIt = ahead(x, "-p");
            int asItIs = ahead(x, "");
            Due.same("20 moves", Due.other(x, "-p"), 600 + byIt - asItIs);
            Due.row("20 moves", x, 300 + byIt, 300 + asItIs);
        }
    }

    /** By how much side 0 is ahead behind 20 MOVES, if it plays by a rule, the other by none. */
    private static int ahead(SowingBoards x, String rule) {
        x.keep(0);
        for (int i = 0; i < 20; i++) {
            Due.rule(x, x.count(1) == 0 ? rule : "");
            x.plays(1);
        }
        Due.rule(x, "");
        int ahead = x.store(0) - x.store(1);
        x.again(0);
        return ahead;
    }

    private static void years() {
        SowingBoards x = Due.made("21201", "scx");
        // Of seed 1 the first DRAW of 3 is 16838 % 3 = 2.
        Due.same("by the rule", x.years(1, 1), 301);
        Due.row("by the rule", x, 1, 1);
        // Of seed 0 it is 0, then 54236 % 2 = 0: PIT 0 is sown to PIT 1.
        Due.same("by chance", x.years(0, 1), 300);
        Due.row("by chance", x, 1, 1);
        Due.pits("changes nothing", x, 1, 2, 0, 1);
        Due.same("nothing to undo", x.count(8), 0);
        // 0 3 0 1: then 42756 % 3 = 0 and 54885 % 1 = 0: PIT 1 of side 1 brings 1, TURN stays, and it is over.
        Due.same("two", x.years(0, 2), 299);
        Due.row("two", x, 2, 1);
        Due.same("no draws more", x.years(0, 60), 299);
        Due.row("no draws more", x, 2, 1);
        Due.same("years(1, 0)", x.years(1, 0), Due.NONE);
        Due.same("years(1, 61)", x.years(1, 61), Due.NONE);
        Due.row("the row stays", x, 2, 1);
        // Without sign: 2147483653 is below 0 as an int, 51423 % 3 = 0, then 8457 % 2 = 1.
        Due.same("without sign", x.years(Integer.MIN_VALUE + 5, 1), 301);
        Due.row("without sign", x, 1, 1);
        x = Due.made("20011", "scx");
        Due.same("over", x.years(5, 3), 300);
        Due.row("over", x, 0, 0);
    }
}
