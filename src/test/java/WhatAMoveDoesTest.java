/** Promises 16 to 24. */
public final class WhatAMoveDoesTest {
    public static void main(String[] args) {
        would();
        worth();
        best();
        most();
        chain();
        longest();
        threat();
        risks();
        starves();
        Due.finish("WhatAMoveDoesTest");
    }

    private static void would() {
        SowingBoards x = Due.made("21201", "scx");
        Due.same("would", x.would(1), 1);
        Due.row("would", x, 1, 2, 1);
        Due.same("would into a pit", x.would(0), 0);
        Due.row("would into a pit", x, 1, 1, 1);
        Due.pits("questions change nothing", x, 1, 2, 0, 1);
        Due.same("turn", x.count(1), 0);
        Due.same("moves", x.count(2), 0);
        Due.same("nothing to undo", x.count(8), 0);
        Due.same("would(2)", x.would(2), Due.NONE);
        Due.same("would(-1)", x.would(-1), Due.NONE);
        x.passes();
        Due.same("empty", x.would(0), Due.NOTHING);
        Due.row("the row stays", x, 1, 1, 1);
        Due.same("of the mover", x.would(1), 1);
        Due.row("of the mover", x, 1, Due.STORE, 1);
    }

    private static void worth(String rule, int want) {
        SowingBoards x = Due.made("21201", "scx");
        Due.same("rule " + rule, Due.rule(x, rule), 0);
        Due.same("worth by " + rule, x.worth(1), 0);
        Due.row("worth by " + rule, x, want);
    }

    private static void worth() {
        // PIT 1 brings 1 to the STORE, its last SEED falls in PIT 2, then there is 1 0 1 1.
        String[] rules = {"", "t", "a", "p", "n", "l", "e", "o", "7", "7/2", "-7/2", "7/-2", "7/0", "7/(t-1)", "1<2", "2<1",
            "2<2", "2>1", "1>2", "2>2", "2=2", "2=1", "1-2-3", "2*3+4", "2+3*4", "100/10/5", "100/10*5", "--5", "2*-3",
            "-2*3", "-(2+3)", "2-(3-4)", "1+1<3", "3<1+1", "(1<2)=1", "(1<2)+(1<2)", "007", "9*o-n", "---t", "1-n<0",
            "999*999*999*999", "((((9))))"};
        int[] wants = {3, 1, 0, 1, 2, 1, 1, 2, 7, 3, -3, -3, 0, 0, 1, 0,
            0, 1, 0, 0, 1, 0, -4, 10, 14, 2, 50, 5, -6,
            -6, -5, 3, 1, 0, 1, 2, 7, 16, -1, 1,
            999 * 999 * 999 * 999, 9};
        for (int i = 0; i < rules.length; i++) {
            worth(rules[i], wants[i]);
        }
        SowingBoards x = Due.made("20101", "scx");
        x.worth(1);
        Due.row("no rule: t*3+a*2", x, 5);
        Due.same("empty", x.worth(0), Due.NOTHING);
        Due.same("worth(2)", x.worth(2), Due.NONE);
        Due.same("worth(-1)", x.worth(-1), Due.NONE);
        Due.row("the row stays", x, 5);
        // It is 1 2 0 0 then: e counts PITS of side 1, o SEEDS of side 0.
        x = Due.made("20102", "c");
        Due.rule(x, "t*100+e*10+o");
        x.passes();
        x.worth(1);
        Due.row("of side 1", x, 23);
        x = Due.made("21202", "r");
        Due.rule(x, "l*100+n*10+p");
        x.worth(1);
        Due.row("laps", x, 5021);
    }

    private static void best() {
        SowingBoards x = new SowingBoards();
        Due.same("of equal ones the first", best(x, "0"), 0);
        Due.row("of equal ones the first", x, 0);
        Due.same("the greatest", best(x, "p"), 2);
        Due.row("the greatest", x, 2);
        Due.same("below 0", best(x, "-p-5"), 0);
        Due.row("below 0", x, -5);
        Due.same("the first of two", best(x, "p>0"), 1);
        Due.board(x, "20011");
        Due.same("over", x.best(), Due.NOTHING);
        Due.row("the row stays", x, 1);
        Due.board(x, "20111");
        Due.same("pits that are empty are none", best(x, "-p"), 1);
        // As ints it is below 0 for PIT 1, and 0 for the others.
        x = new SowingBoards();
        Due.same("as ints", best(x, "999*999*999*3*p*(p<2)"), 0);
    }

    private static int best(SowingBoards x, String rule) {
        Due.same("rule " + rule, Due.rule(x, rule), 0);
        return x.best();
    }

    private static void most() {
        SowingBoards x = new SowingBoards();
        Due.same("most", x.most(), 1);
        Due.row("of equal ones the first", x, 0);
        x = Due.made("3310400", "scx");
        Due.same("captured by PIT 1", x.most(), 5);
        Due.row("captured by PIT 1", x, 1);
        Due.rule(x, "-t");
        Due.same("not by the rule", x.most(), 5);
        Due.board(x, "21001");
        Due.same("none comes", x.most(), 0);
        Due.row("none comes", x, 0);
        Due.board(x, "20011");
        Due.same("over", x.most(), Due.NOTHING);
        Due.row("the row stays", x, 0);
    }

    private static void chain() {
        SowingBoards x = Due.made("3321000", "scx");
        Due.same("five in one turn", x.chain(), 5);
        Due.row("five in one turn", x, 2, 1, 2, 0, 2);
        Due.pits("questions change nothing", x, 3, 2, 1, 0, 0, 0);
        x = Due.made("21100", "scx");
        Due.same("one", x.chain(), 1);
        Due.row("one that ends earlier is the lesser one", x, 1);
        x = Due.made("3321000", "s");
        Due.same("without x one move", x.chain(), 1);
        Due.row("the first of equal ones", x, 0);
        // 1 1 1 1 1 1 come by 6 MOVES, a seventh would bring one more.
        x = Due.made("6054321000000", "sx");
        Due.same("at most six moves", x.chain() <= 6, true);
        Due.same("at most six moves", x.count(9) <= 6, true);
        x.longest();
        Due.same("six moves", x.count(9), 6);
        Due.board(x, "20011");
        Due.same("over", x.chain(), Due.NOTHING);
        Due.same("the row stays", x.count(9), 6);
    }

    private static void longest() {
        SowingBoards x = Due.made("3321000", "scx");
        Due.same("six", x.longest(), 6);
        Due.row("six", x, 2, 1, 2, 0, 2, 1);
        x = Due.made("21100", "scx");
        Due.same("two", x.longest(), 2);
        Due.row("two", x, 1, 0);
        x = new SowingBoards();
        Due.laws(x, "s");
        Due.same("one", x.longest(), 1);
        Due.row("one", x, 0);
        Due.board(x, "20011");
        Due.same("over", x.longest(), Due.NOTHING);
        Due.row("the row stays", x, 0);
    }

    private static void threat() {
        SowingBoards x = Due.made("3401100", "c");
        // Side 1: PIT 3 to PIT 4, 1 SEED, PIT 1 is empty; were it 5, PIT 0 has 4.
        Due.same("no threat", x.threat(), 0);
        Due.row("of equal ones the first", x, 0);
        x = Due.made("3401200", "c");
        Due.same("a threat", x.threat(), 5);
        Due.row("a threat", x, 0);
        Due.same("turn stays", x.count(1), 0);
        x = Due.made("3004020", "c");
        Due.same("0 0 4 0 2 0", x.threat(), 0);
        Due.row("its own pit p", x, 1);
        x.passes();
        Due.same("of side 0 then", x.threat(), 2);
        Due.row("of side 0 then", x, 2);
        x = Due.made("21100", "c");
        Due.same("no move", x.threat(), 0);
        Due.row("no move", x);
        x = Due.made("20010", "c");
        Due.same("though it is over", x.threat(), 0);
        Due.row("though it is over", x, 0);
    }

    private static void risks() {
        SowingBoards x = Due.made("3401100", "c");
        // By PIT 2 it is 4 0 0 2 0 0: then PIT 3 ends in PIT 5 and takes the 4 opposite.
        Due.same("5", x.risks(2), 5);
        Due.same("0", x.risks(0), 0);
        Due.same("empty", x.risks(1), Due.NOTHING);
        Due.same("risks(3)", x.risks(3), Due.NONE);
        Due.same("risks(-1)", x.risks(-1), Due.NONE);
        Due.row("the row is not told", x);
        x = Due.made("3401200", "scx");
        Due.same("turn stays", x.risks(2), 0);
        x.passes();
        Due.same("by the other", x.threat() > 0, true);
        x = Due.made("21100", "");
        Due.same("no move", x.risks(0), 0);
    }

    private static void starves() {
        SowingBoards x = Due.made("21100", "");
        Due.same("by PIT 0", x.starves(), 1);
        Due.row("by PIT 0", x, 1);
        x = Due.made("20111", "sx");
        Due.same("his own pits", x.starves(), 1);
        Due.row("his own pits", x, 2);
        x = Due.made("3110001", "");
        Due.same("none", x.starves(), 0);
        Due.row("none", x, 0);
        x = Due.made("3110000", "");
        Due.same("two", x.starves(), 2);
        Due.row("two", x, 3);
        x = Due.made("20011", "");
        Due.same("over", x.starves(), 0);
        Due.row("over", x, 0);
        Due.same("changes nothing", x.count(3), 2);
    }
}
