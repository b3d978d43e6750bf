import java.util.function.Consumer;
import java.util.function.ToIntBiFunction;
import java.util.function.ToLongFunction;

/** Term 2: the ROW, fractions, questions, refused calls, which answer comes ahead of which, a PIT asked as p. */
public final class EdgesOfAnswersTest {
    private static final int MIN = Integer.MIN_VALUE;
    private static final int MAX = Integer.MAX_VALUE;

    public static void main(String[] args) {
        Edges.run(EdgesOfAnswersTest.class);
    }

    // ---- the ROW

    static void term2TheRowHasTheNumbersToldLast() {
        SowingBoards x = Due.made("21100", "scx");
        x.would(0);
        Due.row("three", x, 1, 1, 1);
        x.most();
        Due.row("then one", x, 1);
        x.reach(1);
        Due.row("then two", x, 0, 1);
        x.longest();
        Due.row("then two others", x, 1, 0);
        x.moves(1);
        Due.row("then three", x, 1, Due.STORE, 0);
        x.looks(0);
        Due.row("then none", x);
    }

    static void term2TheRowStaysWithCallsThatDoNotTellOfIt() {
        row("sign", x -> x.sign(0));
        row("end", x -> x.end(0) ? 1 : 0);
        row("board", x -> x.board());
        row("laws", x -> Due.laws(x, "s"));
        row("rule", x -> Due.rule(x, "t"));
        row("pit", x -> x.pit(0));
        row("store", x -> x.store(0));
        row("sheet", x -> x.sheet(2, 1, 1, 1));
        row("sheet of entries below 0", x -> x.sheet(2, -1, 1, 1));
        row("a missing sheet", x -> x.sheet(3, 1, 1, 1));
        row("passes", x -> x.passes());
        row("adds", x -> x.adds(0, 1));
        row("undo", x -> x.undo());
        row("risks", x -> x.risks(0));
        row("heard", x -> x.heard(0, 0));
        row("forget", x -> x.forget());
        row("saw", x -> x.saw(0, 0));
        row("denies", x -> x.denies());
        row("keep", x -> x.keep(0) ? 1 : 0);
        row("again", x -> x.again(0) ? 1 : 0);
        row("count", x -> x.count(9));
        row("row", x -> x.row(0));
    }

    /** The call leaves the ROW of rich() as it was. */
    private static void row(String call, ToLongFunction<SowingBoards> one) {
        SowingBoards x = new SowingBoards();
        Twins.rich(x);
        one.applyAsLong(x);
        Due.row(call, x, 1, 7, 0);
    }

    static void term2RowsOfNumbersAreComparedFromTheFirstOn() {
        // The row 0 2 1 2 brings 4, as PIT 1 alone does.
        SowingBoards x = Sown.board("scx", 0, 3, 1, 0, 3, 0, 0);
        Due.same("chain", x.chain(), 4);
        Due.row("chain", x, 0, 2, 1, 2);
        // 0 1 1, 0 1 2, 2 0 0, 2 1 0.
        x = Sown.board("", 0, 1, 0, 1, 0, 1, 0);
        Due.same("ways", x.ways(0, 3), 4);
        Due.row("ways", x, 0, 1, 1);
    }

    // ---- fractions

    static void term2FractionsInLowestTerms() {
        SowingBoards x = Sown.board("sx", 0, 0, 0, 1, 1, 1, 1, 0, 0, 0, 0, 0, 0);
        x.luck(1, 1);
        Due.row("one of four", x, 1, 4);
        x = Sown.board("sx", 0, 0, 2, 1, 1, 0, 0);
        x.luck(1, 1);
        Due.row("two of two", x, 1, 1);
        x = Sown.board("s", 0, 0, 0, 0, 0, 2, 1, 1, 0, 0, 0, 0, 0);
        x.luck(1, 1);
        Due.row("two of two", x, 1, 1);
        x = Sown.board("s", 0, 0, 0, 1, 1, 2, 1, 0, 0, 0, 0, 0, 0);
        x.luck(1, 1);
        Due.row("two of four", x, 1, 2);
    }

    static void term2AFractionOf0Is0By1() {
        SowingBoards x = new SowingBoards();
        x.luck(4, 108);
        Due.row("never", x, 0, 1);
        x.luck(0, 1);
        Due.row("not now", x, 0, 1);
    }

    static void term2AFractionOf1Is1By1() {
        SowingBoards x = new SowingBoards();
        x.luck(4, 0);
        Due.row("sure", x, 1, 1);
        x.luck(0, 0);
        Due.row("now", x, 1, 1);
    }

    // ---- questions

    static void term2QuestionsChangeNothing() {
        Consumer<SowingBoards> rich = Twins::rich;
        Twins.nothing("pit(5)", rich, x -> x.pit(5), 1);
        Twins.nothing("store(1)", rich, x -> x.store(1), 3);
        Twins.nothing("count(9)", rich, x -> x.count(9), 3);
        Twins.nothing("row(1)", rich, x -> x.row(1), 7);
        Twins.anyRowAlone("would(0)", rich, x -> x.would(0));
        Twins.anyRowAlone("worth(1)", rich, x -> x.worth(1));
        Twins.anyRowAlone("best()", rich, x -> x.best());
        Twins.anyRowAlone("most()", rich, x -> x.most());
        Twins.anyRowAlone("chain()", rich, x -> x.chain());
        Twins.anyRowAlone("longest()", rich, x -> x.longest());
        Twins.anyRowAlone("threat()", rich, x -> x.threat());
        Twins.anyRowAlone("risks(2)", rich, x -> x.risks(2));
        Twins.anyRowAlone("starves()", rich, x -> x.starves());
        for (int n = 0; n <= 4; n++) {
            int many = n;
            Twins.anyRowAlone("looks(" + n + ")", rich, x -> x.looks(many));
            Twins.anyRowAlone("ways(3, " + n + ")", rich, x -> x.ways(3, many));
            Twins.anyRowAlone("luck(" + n + ", 2)", rich, x -> x.luck(many, 2));
        }
        for (int n = 0; n <= 3; n++) {
            int many = n;
            Twins.anyRowAlone("reach(" + n + ")", rich, x -> x.reach(many));
        }
        Twins.anyRowAlone("when(3)", rich, x -> x.when(3));
        Twins.anyRowAlone("ends()", rich, x -> x.ends());
        Twins.anyRowAlone("round()", EdgesOfAnswersTest::richCircle, x -> x.round());
        Twins.anyRowAlone("fullest(60)", rich, x -> x.fullest(60));
        Twins.anyRowAlone("alone(99)", rich, x -> x.alone(99));
        Twins.anyRowAlone("fits()", rich, x -> x.fits());
        Twins.anyRowAlone("asks()", rich, x -> x.asks());
        Twins.anyRowAlone("guess()", rich, x -> x.guess());
        Twins.anyRowAlone("tries()", rich, x -> x.tries());
        Twins.anyRowAlone("bids(20)", rich, x -> x.bids(20));
        Twins.anyRowAlone("years(1, 60)", rich, x -> x.years(1, 60));
    }

    static void term2QuestionsThatReadTheTextChangeNothingElse() {
        Twins.anyRowAlone("comes()", x -> textless(x), x -> Due.comes(x, "123"));
        Twins.anyRowAlone("other()", x -> textless(x), x -> Due.other(x, "-p"));
    }

    private static void textless(SowingBoards x) {
        Twins.rich(x);
        x.end(0);
    }

    /** As rich(), but two SEEDS go round for ever. */
    private static void richCircle(SowingBoards x) {
        Twins.rich(x);
        x.end(0);
        x.laws();
        Due.rule(x, "p");
        x.sheet(3, 0, 0, 0);
        x.adds(0, 1);
        x.adds(4, 1);
        x.would(3);
        Due.text(x, "21234");
    }

    // ---- a place

    static void term2APlaceIsThePitOr50ForTheStoreOfTheMover() {
        for (int c = 2; c <= 6; c++) {
            for (int side = 0; side < 2; side++) {
                int[] seeds = new int[2 * c];
                seeds[side * c + c - 1] = 1;
                SowingBoards x = Sown.board("s", side, seeds);
                x.would(c - 1);
                Due.row("the STORE of side " + side, x, 1, Due.STORE, 1 - side);
                Due.laws(x, "");
                x.would(c - 1);
                Due.row("behind the last PIT of side " + side, x, 1, side == 0 ? c : 0, 1 - side);
            }
        }
    }

    // ---- refused calls

    static void term2RefusedCallsAnswerNoneAndChangeNothing() {
        Consumer<SowingBoards> rich = Twins::rich;
        Twins.nothing("moves(4)", rich, x -> x.moves(4), Due.NONE);
        Twins.nothing("plays(61)", rich, x -> x.plays(61), Due.NONE);
        Twins.nothing("adds(8, 1)", rich, x -> x.adds(8, 1), Due.NONE);
        Twins.nothing("sheet(4, 1, 1, 1)", rich, x -> x.sheet(4, 1, 1, 1), Due.NONE);
        Twins.nothing("would(-1)", rich, x -> x.would(-1), Due.NONE);
        Twins.nothing("count(11)", rich, x -> x.count(11), Due.NONE);
    }

    static void term2RefusedCallsAnswerFalseAndChangeNothing() {
        Consumer<SowingBoards> rich = Twins::rich;
        Twins.nothing("end(6)", rich, x -> x.end(6) ? 1 : 0, 0);
        Twins.nothing("keep(2)", rich, x -> x.keep(2) ? 1 : 0, 0);
        Twins.nothing("again(2)", rich, x -> x.again(2) ? 1 : 0, 0);
    }

    static void term2RefusedCallsThatReadTheTextEmptyIt() {
        textEmptied("board()", "2123", x -> x.board(), -5);
        textEmptied("laws()", "ss", x -> x.laws(), -2);
        textEmptied("rule()", "1+", x -> x.rule(), -3);
        textEmptied("game()", "6", x -> x.game(), -1);
        textEmptied("comes()", "x", x -> x.comes(), -1);
        textEmptied("other()", "1+", x -> x.other(), -3);
    }

    private static void textEmptied(String call, String signs, ToLongFunction<SowingBoards> one, long want) {
        Twins.textAlone(call + " of " + signs, x -> {
            Twins.rich(x);
            Due.text(x, signs);
        }, one, want);
    }

    static void term2CallsThatReadTheTextEmptyIt() {
        emptied("board()", "21234", x -> x.board());
        emptied("laws()", "sr", x -> x.laws());
        emptied("rule()", "1+2", x -> x.rule());
        emptied("game()", "//*", x -> x.game());
        emptied("game() that can't go on", "5/////", x -> x.game());
        emptied("comes()", "123", x -> x.comes());
        emptied("other()", "p", x -> x.other());
    }

    private static void emptied(String call, String signs, ToLongFunction<SowingBoards> one) {
        SowingBoards x = new SowingBoards();
        Twins.rich(x);
        Due.text(x, signs);
        Due.same(call + " is not refused", one.applyAsLong(x) >= 0, true);
        Due.same(call + ": signs of THE TEXT", x.count(10), 0);
    }

    static void term2OtherCallsLeaveTheText() {
        SowingBoards x = new SowingBoards();
        Twins.rich(x);
        x.moves(0);
        x.plays(1);
        x.adds(0, 1);
        x.passes();
        x.undo();
        x.sheet(2, 4, 1, 1);
        x.keep(0);
        x.again(0);
        x.heard(0, 0);
        x.forget();
        x.saw(0, 0);
        x.denies();
        x.best();
        x.years(1, 2);
        Due.same("signs of THE TEXT", x.count(10), 5);
        Due.same("it is told still", x.board(), 10);
    }

    // ---- which answer comes ahead of which

    static void term2NoneComesAheadOfOtherAnswersBelow0() {
        SowingBoards x = Sown.board("", 0, 0, 0, 0, 0);
        Due.same("over", x.plays(1), Due.NOTHING);
        Due.same("over, and n too small", x.plays(0), Due.NONE);
        Due.same("over, and n too great", x.plays(61), Due.NONE);
        Due.same("all is empty, and p not there", x.moves(2), Due.NONE);
        x = full();
        Due.same("200 SEEDS", x.adds(0, 1), Due.NOTHING);
        Due.same("200 SEEDS, and n too small", x.adds(0, 0), Due.NONE);
        Due.same("200 SEEDS, and n too great", x.adds(0, 10), Due.NONE);
        Due.same("200 SEEDS, and no such PIT", x.adds(4, 1), Due.NONE);
        Due.same("n below 0, and another kind", x.sheet(4, -1, 1, 1), Due.NONE);
        Due.same("missing, and n above 12", x.sheet(3, 13, 1, 1), Due.NONE);
    }

    private static SowingBoards full() {
        SowingBoards x = Sown.board("", 0, 50, 50, 50, 50);
        Due.same("200 SEEDS", x.count(3), 200);
        return x;
    }

    // ---- a PIT that is asked as p

    static void term2MovesAsksAPitAsP() {
        askedAsP("moves", (x, p) -> x.moves(p));
    }

    static void term2WouldAsksAPitAsP() {
        askedAsP("would", (x, p) -> x.would(p));
    }

    static void term2WorthAsksAPitAsP() {
        askedAsP("worth", (x, p) -> x.worth(p));
    }

    static void term2RisksAsksAPitAsP() {
        askedAsP("risks", (x, p) -> x.risks(p));
    }

    /** Of all COLUMNS and of both sides: the last PIT that is there, the first that is not, an empty one. */
    private static void askedAsP(String call, ToIntBiFunction<SowingBoards, Integer> asked) {
        for (int c = 2; c <= 6; c++) {
            for (int side = 0; side < 2; side++) {
                int[] seeds = Due.counted(2 * c, 1);
                seeds[side * c] = 0;
                for (int p : new int[] {MIN, -1, c, c + 1, 2 * c, 50, MAX}) {
                    refusedAsP(call, side, p, asked, Due.NONE, seeds);
                }
                refusedAsP(call, side, 0, asked, Due.NOTHING, seeds);
                SowingBoards x = Sown.board("", side, seeds);
                Due.same(call + "(" + (c - 1) + ") of " + c, asked.applyAsInt(x, c - 1), 0);
                seeds[side * c] = 1;
                x = Sown.board("", side, seeds);
                Due.same(call + "(0) of " + c, asked.applyAsInt(x, 0), 0);
            }
        }
    }

    private static void refusedAsP(String call, int side, int p, ToIntBiFunction<SowingBoards, Integer> asked, int want,
            int[] seeds) {
        SowingBoards x = Sown.board("", side, seeds);
        x.starves();
        long row = x.row(0);
        int undone = x.count(8);
        Due.same(call + "(" + p + ") of side " + side, asked.applyAsInt(x, p), want);
        Due.row("the ROW stays", x, row);
        Due.pits(call + "(" + p + ")", x, seeds);
        Due.same("TURN", x.count(1), side);
        Due.same("MOVES", x.count(2), 0);
        Due.same("can be undone", x.count(8), undone);
    }
}
