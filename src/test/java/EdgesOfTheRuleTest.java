/** Term 1, THE RULE: which texts it takes, what they tell of a MOVE, which MOVE it plays. */
public final class EdgesOfTheRuleTest {
    private static final String COMPARED = "<>=";
    private static final String BINDING = "<>=+-*/";
    private static final String THINGS = "tapnleo";
    private static final String DIGITS = "0123456789";

    public static void main(String[] args) {
        Edges.run(EdgesOfTheRuleTest.class);
    }

    /** It is taken by rule() and by other(). */
    private static void taken(String... rules) {
        for (String rule : rules) {
            SowingBoards x = new SowingBoards();
            Due.same("rule " + rule, Due.rule(x, rule), 0);
            Due.same("THE TEXT is read", x.count(10), 0);
            Due.same("other " + rule, Due.other(x, rule), 600);
        }
    }

    /** The sign at a place can't stand there, by rule() and by other(). */
    private static void wrong(int place, String rule) {
        SowingBoards x = new SowingBoards();
        Due.same("rule " + rule, Due.rule(x, rule), -1 - place);
        Due.same("THE TEXT is read", x.count(10), 0);
        Due.same("other " + rule, Due.other(x, rule), -1 - place);
        Due.same("THE TEXT is read", x.count(10), 0);
    }

    /** Of a MOVE that brings 1, lifts PIT 1 of 2 SEEDS in one LAP, leaves one PIT empty and the other side 2: TURN goes. */
    private static void tells(String rule, long want) {
        SowingBoards x = Due.made("21201", "scx");
        Due.same("rule " + rule, Due.rule(x, rule), 0);
        Due.same("worth by " + rule, x.worth(1), 0);
        Due.row("worth by " + rule, x, want);
    }

    // ---- 40 signs

    static void termRule40SignsAreTaken() {
        taken(Due.times("-", 39) + "1", Due.times("1+", 19) + "12", Due.times("1+", 18) + "(12)");
    }

    static void termRule39SignsAreTaken() {
        taken(Due.times("-", 38) + "1", Due.times("1+", 19) + "1");
    }

    static void termRule41SignsAreOneTooMany() {
        wrong(40, Due.times("-", 40) + "1");
        wrong(40, Due.times("1+", 20) + "1");
        wrong(40, Due.times("1+", 19) + "12+");
    }

    static void termRuleARefusedTextLeavesNothingForTheNext() {
        String[] refused = {"-", "1-", "1*", "1<", "(", "-(-(-(-(", "((((1<2", "999", "1000", "1<2<3", Due.times("-", 40),
            Due.times("-", 41), Due.times("1-", 20), Due.times("(1)*", 10)};
        for (String rule : refused) {
            for (int by = 0; by < 2; by++) {
                SowingBoards x = Due.made("21201", "scx");
                Due.text(x, rule);
                Due.same("refused " + rule, by == 0 ? x.rule() < 0 : x.other() < 0, !rule.equals("999"));
                Due.same("then 2-t<(7+l)", Due.rule(x, "2-t<(7+l)"), 0);
                x.worth(1);
                Due.row("then 2-t<(7+l)", x, 1);
                Due.same("then 2", Due.rule(x, "2"), 0);
                x.worth(1);
                Due.row("then 2", x, 2);
            }
        }
    }

    static void termRuleTheFirst40CouldEndOrGoOn() {
        wrong(40, Due.times("1+", 19) + "12" + "x");
        wrong(40, Due.times("1+", 20) + "x");
        wrong(40, Due.times("-", 40) + Due.times("x", 40));
        wrong(40, Due.times("-", 38) + "((" + "1))");
    }

    static void termRuleAWrongSignAheadOf40IsToldFirst() {
        wrong(39, Due.times("1+", 19) + "1x" + Due.times("1", 39));
        wrong(0, "x" + Due.times("-", 40) + "1");
        wrong(38, Due.times("1+", 19) + "+1+1");
    }

    static void termRule40SignsThatEndTooEarly() {
        wrong(40, Due.times("-", 40));
        wrong(40, Due.times("1+", 20));
        wrong(40, Due.times("-", 39) + "(");
    }

    // ---- what can stand where

    static void termRuleAnEmptyTextIsNone() {
        SowingBoards x = Due.made("21201", "scx");
        Due.rule(x, "p");
        Due.same("an empty text", Due.rule(x, ""), 0);
        x.worth(1);
        Due.row("t*3+a*2", x, 3);
    }

    static void termRuleEachSignAheadOfAThing() {
        for (char sign = 0; sign < 256; sign++) {
            boolean ends = (THINGS + DIGITS).indexOf(sign) >= 0;
            boolean goesOn = sign == '-' || sign == '(';
            SowingBoards x = new SowingBoards();
            Due.same("sign " + (int) sign + " alone", Due.rule(x, "" + sign), ends ? 0 : goesOn ? -2 : -1);
            Due.same("sign " + (int) sign + " behind +", Due.rule(x, "1+" + sign), ends ? 0 : goesOn ? -4 : -3);
            Due.same("sign " + (int) sign + " behind (", Due.rule(x, "(" + sign), ends || goesOn ? -3 : -2);
            Due.same("sign " + (int) sign + " behind -", Due.rule(x, "-" + sign), ends ? 0 : goesOn ? -3 : -2);
        }
    }

    static void termRuleEachSignBehindAThing() {
        for (char sign = 0; sign < 256; sign++) {
            boolean binds = BINDING.indexOf(sign) >= 0;
            boolean digit = DIGITS.indexOf(sign) >= 0;
            SowingBoards x = new SowingBoards();
            Due.same("t and sign " + (int) sign, Due.rule(x, "t" + sign), binds ? -3 : -2);
            Due.same("7 and sign " + (int) sign, Due.rule(x, "7" + sign), binds ? -3 : digit ? 0 : -2);
            Due.same("(t) and sign " + (int) sign, Due.rule(x, "(t)" + sign), binds ? -5 : -4);
            Due.same("(t and sign " + (int) sign, Due.rule(x, "(t" + sign), binds ? -4 : sign == ')' ? 0 : -3);
        }
    }

    static void termRuleItsEndIfItEndsTooEarly() {
        for (char sign : BINDING.toCharArray()) {
            wrong(2, "t" + sign);
        }
        wrong(1, "-");
        wrong(1, "(");
        wrong(2, "(t");
        wrong(4, "((t)");
        wrong(3, "t+(");
        wrong(4, "(t)*");
    }

    static void termRuleAClosingSignNeedsAnOpenOne() {
        wrong(0, ")");
        wrong(1, "t)");
        wrong(3, "(t))");
        wrong(1, "()");
        wrong(3, "(t+)");
        taken("(t)", "((t))");
    }

    // ---- NUMBERS

    static void termRuleNumbersHave1To3Digits() {
        taken("0", "9", "10", "99", "100", "999", "000");
        tells("0", 0);
        tells("9", 9);
        tells("99", 99);
        tells("999", 999);
        tells("007", 7);
    }

    static void termRuleAFourthDigitIsOneTooMany() {
        wrong(3, "1000");
        wrong(3, "0000");
        wrong(5, "t+9999");
        wrong(4, "(1234)");
        wrong(4, "-1234");
    }

    static void termRuleNoDigitBehindALetterOrAClosedOne() {
        wrong(1, "t1");
        wrong(3, "(1)1");
        wrong(1, "1t");
        wrong(1, "1(");
        wrong(3, "(1)(");
    }

    static void termRuleEachNumberHasDigitsOfItsOwn() {
        tells("999+999", 1998);
        tells("100-(100)-100", -100);
        tells("999*1+999", 1998);
    }

    // ---- ( )

    static void termRuleFourInOneAnother() {
        taken("((((t))))");
        tells("((((9))))", 9);
        tells("2*(3-(4-(5-(6-7))))", 2 * (3 - (4 - (5 - (6 - 7)))));
    }

    static void termRuleAFifthInOneAnotherIsOneTooMany() {
        wrong(4, "(((((t)))))");
        wrong(4, "(((((");
        wrong(9, "-(-(-(-(-(1)))))");
        wrong(14, "1+(2+(3+((1)+(((");
    }

    static void termRuleClosedOnesDoNotCount() {
        taken("((((1))))+((((1))))", "((((1)+(1))))", "(1)+(1)+(1)+(1)+(1)+(1)");
        wrong(8, "((((1)+((");
        tells("((((1)+(2))))+((((3))))", 6);
    }

    // ---- < > =

    static void termRuleTwoAreCompared() {
        tells("1<2", 1);
        tells("2<2", 0);
        tells("3<2", 0);
        tells("1>2", 0);
        tells("2>2", 0);
        tells("3>2", 1);
        tells("1=2", 0);
        tells("2=2", 1);
        tells("3=2", 0);
    }

    static void termRuleNotOneBehindTheOther() {
        for (char first : COMPARED.toCharArray()) {
            for (char second : COMPARED.toCharArray()) {
                wrong(3, "1" + first + "2" + second + "3");
                wrong(5, "1" + first + "2+3" + second + "4");
                wrong(4, "(1" + first + "2" + second + "3)");
                wrong(7, "1" + first + "(2<3)" + second + "4");
                wrong(2, "1" + first + second + "2");
            }
        }
    }

    static void termRuleEachInItsOwnParentheses() {
        taken("(1<2)<3", "1<(2<3)", "(1<2)=(3>4)", "((1<2)<3)<4", "1<(2<(3<(4<(5<6))))", "(1<2)+(1<2)<(1<2)");
        tells("(1<2)+(1<2)", 2);
        tells("(3>2)>(2>3)", 1);
        wrong(11, "(1<2)<(2<3)<4");
        wrong(8, "((1<2)<3<4)");
    }

    static void termRuleComparedBindsLeast() {
        tells("1+1<1", 0);
        tells("1<1+1", 1);
        tells("2*3=6", 1);
        tells("1-1=0", 1);
        tells("0=0-1", 0);
    }

    // ---- + - * / and - ahead

    static void termRulePlusAndMinusFromTheLeft() {
        tells("1-2-3", -4);
        tells("1-2+3", 2);
        tells("9-(2-3)", 10);
    }

    static void termRuleTimesAndDividedFromTheLeft() {
        tells("100/10/5", 2);
        tells("100/10*5", 50);
        tells("7/2*2", 6);
        tells("2*7/4", 3);
    }

    static void termRuleTimesAndDividedBindMoreThanPlusAndMinus() {
        tells("2+3*4", 14);
        tells("2*3+4", 10);
        tells("9-8/4", 7);
        tells("8/4-9", -7);
    }

    static void termRuleBy0Is0() {
        tells("7/0", 0);
        tells("0/0", 0);
        tells("-7/0", 0);
        tells("7/(t-1)", 0);
        tells("7/0+5", 5);
        tells("7/0/0", 0);
    }

    static void termRuleDividedIsCutTo0() {
        tells("7/2", 3);
        tells("-7/2", -3);
        tells("7/-2", -3);
        tells("-7/-2", 3);
        tells("1/2", 0);
        tells("-1/2", 0);
    }

    static void termRuleMinusAheadOfAThingAnyMany() {
        tells("-1", -1);
        tells("--1", 1);
        tells("---1", -1);
        tells("1---1", 0);
        tells("2*---3", -6);
        tells("-(-(-1))", -1);
        tells(Due.times("-", 39) + "1", -1);
        tells(Due.times("-", 38) + "1", 1);
    }

    static void termRuleMinusAheadBindsMost() {
        tells("-2-3", -5);
        tells("-2+3", 1);
        tells("-3<2", 1);
        tells("-1=1", 0);
        tells("-5*0=0", 1);
    }

    static void termRuleIntsWrapAround() {
        tells("128*256*256*256", Integer.MIN_VALUE);
        tells("128*256*256*256-1", Integer.MAX_VALUE);
        tells("-(128*256*256*256)", Integer.MIN_VALUE);
        tells("128*256*256*256/-1", Integer.MIN_VALUE);
        tells("128*256*256*256<0", 1);
        tells("256*256*256*256", 0);
        tells("128*256*256*256-1+1", Integer.MIN_VALUE);
        tells("999*999*999*999", 999 * 999 * 999 * 999);
    }

    // ---- the things

    static void termRuleTheSeedsThatCome() {
        tells("t", 1);
        thing("t", 0, 0, "scx", 1, 0, 0, 1);
        thing("t", 6, 0, "c", 1, 0, 5, 0);
    }

    static void termRuleWhetherTurnStays() {
        tells("a", 0);
        thing("a", 1, 1, "sx", 0, 1, 0, 0);
        thing("a", 0, 1, "s", 0, 1, 0, 0);
    }

    static void termRuleWhichPitOfHisItIs() {
        SowingBoards x = Sown.board("", 0, Due.counted(12, 1));
        Due.rule(x, "p");
        for (int side = 0; side < 2; side++) {
            for (int p = 0; p < 6; p++) {
                x.worth(p);
                Due.row("PIT " + p + " of side " + side, x, p);
            }
            x.passes();
        }
    }

    static void termRuleTheSeedsOfThePit() {
        tells("n", 2);
        thing("n", 1, 0, "", 1, 0, 0, 0);
        // Of a PIT that is lifted twice the SEEDS at first.
        thing("n", 5, 0, "r", 5, 0, 0, 0);
    }

    static void termRuleTheLaps() {
        tells("l", 1);
        thing("l", 2, 0, "r", 1, 1, 0, 0);
        thing("l", 50, 1, "r", 1, 2, 0, 2);
    }

    static void termRuleHisEmptyPitsThen() {
        tells("e", 1);
        thing("e", 0, 0, "", 4, 0, 0, 0);
        thing("e", 2, 0, "c", 1, 0, 5, 0);
        thing("e", 2, 1, "", 0, 1, 0, 0);
        // The empty PITS of the other side are not his.
        thing("e", 1, 0, "", 1, 0, 0, 0);
    }

    static void termRuleTheSeedsOfTheOtherSideThen() {
        tells("o", 2);
        thing("o", 0, 0, "c", 1, 0, 5, 0);
        thing("o", 2, 1, "", 1, 2, 0, 0);
        thing("o", 0, 1, "t", 1, 1, 1, 0);
        // What lies in the STORES and in his own PITS does not count.
        thing("o", 0, 1, "s", 5, 1, 0, 0);
    }

    static void termRuleWhatLiesInTheStoresDoesNotCount() {
        // Each STORE has 1; PIT 1 of a side brings one more, then side 0 has 1 0, or side 1 has 0 0.
        SowingBoards x = Sown.board("s", 0, 1, 1, 0, 1);
        x.moves(1);
        x.moves(1);
        x.adds(1, 1);
        x.adds(3, 1);
        String[] rules = {"t", "a", "p", "n", "l", "e", "o"};
        int[][] wants = {{1, 0, 1, 1, 1, 1, 1}, {1, 0, 1, 1, 1, 2, 2}};
        for (int side = 0; side < 2; side++) {
            for (int i = 0; i < rules.length; i++) {
                Due.rule(x, rules[i]);
                Due.same(rules[i] + " of side " + side, x.worth(1), 0);
                Due.row(rules[i] + " of side " + side, x, wants[side][i]);
            }
            x.passes();
        }
    }

    /** The rule tells this of a MOVE by PIT p of side 0, and of side 1 on the board turned round. */
    private static void thing(String rule, int want, int p, String laws, int... seeds) {
        for (int side = 0; side < 2; side++) {
            int[] turned = seeds.clone();
            for (int pit = 0; pit < seeds.length; pit++) {
                turned[(pit + side * seeds.length / 2) % seeds.length] = seeds[pit];
            }
            SowingBoards x = Sown.board(laws, side, turned);
            Due.rule(x, rule);
            Due.same(rule + " of PIT " + p, x.worth(p), 0);
            Due.row(rule + " of PIT " + p + " of side " + side, x, want);
        }
    }

    // ---- which MOVE it plays

    /** By best(), and by plays() and * of a game as well. */
    private static void chosen(String rule, int p, long worth, String laws, int... seeds) {
        SowingBoards x = Sown.board(laws, 0, seeds);
        Due.rule(x, rule);
        Due.same("best by " + rule, x.best(), p);
        Due.row("best by " + rule, x, worth);
        SowingBoards moved = Sown.board(laws, 0, seeds);
        moved.moves(p);
        Due.same("plays by " + rule, x.plays(1), 1);
        for (int pit = 0; pit < seeds.length; pit++) {
            Due.same("plays by " + rule + ": PIT " + pit, x.pit(pit), moved.pit(pit));
        }
        x.undo();
        Due.same("* by " + rule, Due.game(x, "*"), 1);
        for (int pit = 0; pit < seeds.length; pit++) {
            Due.same("* by " + rule + ": PIT " + pit, x.pit(pit), moved.pit(pit));
        }
    }

    static void termRuleItPlaysTheGreatest() {
        chosen("p", 2, 2, "", 1, 1, 1, 0, 0, 0);
        chosen("n", 1, 5, "", 1, 5, 2, 0, 0, 0);
        chosen("-n", 0, -1, "", 1, 5, 2, 0, 0, 0);
    }

    static void termRuleOfEqualOnesTheFirstPit() {
        chosen("0", 0, 0, "", 1, 1, 1, 0, 0, 0);
        chosen("p>0", 1, 1, "", 1, 1, 1, 0, 0, 0);
        chosen("0", 1, 0, "", 0, 1, 1, 0, 0, 0);
    }

    static void termRuleTheGreatestMayBeBelow0() {
        chosen("-p-1", 0, -1, "", 1, 1, 1, 0, 0, 0);
        chosen("p-9", 2, -7, "", 1, 1, 1, 0, 0, 0);
        chosen("128*256*256*256", 1, Integer.MIN_VALUE, "", 0, 1, 1, 0, 0, 0);
    }

    static void termRuleComparedAsInts() {
        // 0, the greatest int, the least one.
        chosen("p*(128*256*256*256-1)+(p=2)", 1, Integer.MAX_VALUE, "", 1, 1, 1, 0, 0, 0);
        chosen("(1-p)*(128*256*256*256)", 1, 0, "", 1, 1, 1, 0, 0, 0);
    }

    static void termRuleNoneIsThreeForASeedAndTwoForTurn() {
        // 3 for a SEED that comes, 2 more if TURN stays.
        chosen("", 1, 5, "sx", 3, 1, 0, 0);
        chosen("", 0, 3, "s", 3, 1, 0, 0);
        chosen("", 0, 6, "c", 1, 0, 0, 0, 1, 0);
        chosen("", 0, 6, "sxc", 1, 0, 1, 0, 1, 0);
        chosen("", 0, 0, "", 1, 1, 0, 0);
    }
}
