/** Promises 1 to 9. */
public final class BoardsAndLawsTest {
    public static void main(String[] args) {
        newObject();
        signs();
        boards();
        lawTexts();
        ruleTexts();
        pitsAndStores();
        sheets();
        Due.finish("BoardsAndLawsTest");
    }

    private static void newObject() {
        SowingBoards x = new SowingBoards();
        Due.same("NONE", SowingBoards.NONE, -1);
        Due.same("new: columns", x.count(0), 3);
        Due.same("new: turn", x.count(1), 0);
        Due.same("new: moves", x.count(2), 0);
        Due.same("new: seeds", x.count(3), 18);
        Due.same("new: over", x.count(4), 0);
        Due.same("new: laws s, c, x", x.count(5), 1 + 4 + 16);
        for (int what = 6; what <= 10; what++) {
            Due.same("new: count " + what, x.count(what), 0);
        }
        Due.pits("new", x, 3, 3, 3, 3, 3, 3);
        Due.stores("new", x, 0, 0);
        Due.row("new", x);
    }

    private static void signs() {
        SowingBoards x = new SowingBoards();
        Due.same("sign", x.sign(0x32FF0080), 4);
        Due.same("count(10)", x.count(10), 4);
        for (int i = 2; i <= 20; i++) {
            Due.same("sign " + i, x.sign(0), 4 * i);
        }
        Due.same("an eighty-first sign", x.sign(0), Due.NONE);
        Due.same("the text stays", x.count(10), 80);
        Due.same("end(77)", x.end(77), true);
        Due.same("77 and 4", x.sign(0), Due.NONE);
        Due.same("end(76)", x.end(76), true);
        Due.same("76 and 4", x.sign(0), 80);
        Due.same("end(81)", x.end(81), false);
        Due.same("end(-1)", x.end(-1), false);
        Due.same("refused ends change nothing", x.count(10), 80);
        Due.same("end(80)", x.end(80), true);
        Due.same("end(0)", x.end(0), true);
        Due.same("end(1) of none", x.end(1), false);
        Due.same("no sign left", x.count(10), 0);
        // The highest byte comes first.
        x.sign('2' << 24 | '1' << 16 | '2' << 8 | '3');
        x.sign('4' << 24);
        x.end(5);
        Due.same("board of 1 2 3 4", x.board(), 10);
        Due.pits("byte by byte", x, 1, 2, 3, 4);
    }

    private static void boards() {
        SowingBoards x = new SowingBoards();
        String[] wrong = {"", "1", "7", "x", "2", "212", "2123", "21234x", "212345", "2x", "6" + Due.times("9", 11),
            "6" + Due.times("9", 13), "21\0003", "2/123", "2:123", "\2612345"};
        int[] places = {0, 0, 0, 0, 1, 3, 4, 5, 5, 1, 12, 13, 2, 1, 1, 0};
        x.moves(1);
        for (int i = 0; i < wrong.length; i++) {
            Due.same("board " + wrong[i], Due.board(x, wrong[i]), -1 - places[i]);
            Due.same("board read the text", x.count(10), 0);
        }
        Due.same("a wrong board changes nothing", x.count(0), 3);
        Due.same("nor moves", x.count(2), 1);
        Due.same("nor what can be undone", x.count(8), 1);
        Due.same("board of six", Due.board(x, "6" + Due.times("9", 12)), 108);
        Due.same("columns", x.count(0), 6);
        Due.pits("six", x, 9, 9, 9, 9, 9, 9, 9, 9, 9, 9, 9, 9);
        Due.same("turn is of side 0", x.count(1), 0);
        Due.same("moves are 0", x.count(2), 0);
        Due.same("nothing to undo", x.undo(), Due.NONE);
        x.moves(0);
        Due.same("board of two", Due.board(x, "20000"), 0);
        Due.stores("stores of a new board", x, 0, 0);
        Due.pits("two", x, 0, 0, 0, 0);
        Due.same("over", x.count(4), 1);
        Due.same("laws stay", x.count(5), 21);
    }

    private static void lawTexts() {
        SowingBoards x = new SowingBoards();
        String letters = "srckxt";
        for (int i = 0; i < 6; i++) {
            Due.same("laws of one", Due.laws(x, letters.substring(i, i + 1)), 1);
            Due.same("its sum", x.count(5), 1 << i);
        }
        Due.same("all laws", Due.laws(x, "txkcrs"), 6);
        Due.same("their sum", x.count(5), 63);
        Due.same("a letter again", Due.laws(x, "scs"), -3);
        Due.same("a seventh", Due.laws(x, "txkcrst"), -7);
        Due.same("another letter", Due.laws(x, "q"), -1);
        Due.same("another sign", Due.laws(x, "s\0"), -2);
        Due.same("a great letter", Due.laws(x, "sC"), -2);
        Due.same("wrong laws change nothing", x.count(5), 63);
        Due.same("laws read the text", x.count(10), 0);
        Due.same("no laws", Due.laws(x, ""), 0);
        Due.same("sum of none", x.count(5), 0);
    }

    private static void ruleTexts() {
        SowingBoards x = new SowingBoards();
        String[] fine = {"", "t", "999", "007", "---1", "((((1))))", "(1<2)<(3=4)", "t*3+a*2", "1--1", "1*-1", "-(-t)",
            "p<n=0".substring(0, 3), "(t)(".substring(0, 3), "t+a+p+n+l+e+o", Due.times("-", 39) + "1",
            "(1)+(1)+(1)+(1)+(1)+(1)+(1)+(1)+(1)+(10)", "(1<2)+((1<2)+((1<2)+(1<2)))"};
        for (String text : fine) {
            Due.same("rule " + text, Due.rule(x, text), 0);
        }
        String[] wrong = {"x", "1000", "t+", "(", "()", "(t", "t)", "tt", "2t", "t2", "1<2<3", "1<2=3", "1>2+3>4", "(1<2<3)",
            "(((((1", "*1", "+1", "1+*2", "1+<2", "t~2", "~t", "t\0", "\0", " t", "t t", "1(", "(1)(", "(1)1", "1<", "-",
            Due.times("-", 40), Due.times("-", 41), Due.times("1+", 20), Due.times("1+", 20) + "1",
            Due.times("1+", 19) + "12" + "3", Due.times("1+", 20) + "x", Due.times("1+", 19) + "1x1",
            Due.times("(1)+", 10) + ")", "(1<2)<3<4", "((1<2)<3)<4<5", "1<(2<3)<4", "T", "1,2", "\u00b91"};
        int[] places = {0, 3, 2, 1, 1, 2, 1, 1, 1, 1, 3, 3, 5, 4,
            4, 0, 0, 2, 2, 1, 0, 1, 0, 0, 1, 1, 3, 3, 2, 1,
            40, 40, 40, 40,
            40, 40, 39,
            40, 7, 11, 7, 0, 1, 0};
        eachSign();
        Due.rule(x, "p");
        for (int i = 0; i < wrong.length; i++) {
            Due.same("rule " + wrong[i], Due.rule(x, wrong[i]), -1 - places[i]);
            Due.same("rule read the text", x.count(10), 0);
        }
        Due.same("the rule stays", x.best(), 2);
        Due.same("no rule", Due.rule(x, ""), 0);
        Due.same("best by none", x.best(), 0);
        Due.row("best by none", x, 5);
    }

    /** Each of the 256 signs ahead of a thing and behind one. */
    private static void eachSign() {
        for (char sign = 0; sign < 256; sign++) {
            SowingBoards x = new SowingBoards();
            boolean alone = "tapnleo0123456789".indexOf(sign) >= 0;
            boolean binds = "+-*/<>=".indexOf(sign) >= 0;
            int want = alone ? 0 : sign == '-' || sign == '(' ? -2 : -1;
            Due.same("rule of sign " + (int) sign, Due.rule(x, "" + sign), want);
            Due.same("t and sign " + (int) sign, Due.rule(x, "t" + sign), binds ? -3 : -2);
            Due.same("t, sign " + (int) sign + ", 1", Due.rule(x, "t" + sign + "1"), binds ? 0 : -2);
        }
    }

    private static void pitsAndStores() {
        SowingBoards x = Due.made("212345".substring(0, 5), "");
        Due.pits("pits", x, 1, 2, 3, 4);
        Due.same("pit(-1)", Due.pitOf(x, -1), Due.THROWS);
        Due.same("pit(4)", Due.pitOf(x, 4), Due.THROWS);
        Due.same("pit(MIN)", Due.pitOf(x, Integer.MIN_VALUE), Due.THROWS);
        Due.same("pit(MAX)", Due.pitOf(x, Integer.MAX_VALUE), Due.THROWS);
        Due.stores("stores", x, 0, 0);
        Due.same("store(-1)", Due.storeOf(x, -1), Due.THROWS);
        Due.same("store(2)", Due.storeOf(x, 2), Due.THROWS);
    }

    private static void sheets() {
        SowingBoards x = new SowingBoards();
        Due.same("ints", x.sheet(2, 6, 1, 2), 1 + 3 + 5 + 7 + 9 + 9);
        Due.pits("ints", x, 1, 3, 5, 7, 9, 9);
        Due.same("less entries", x.sheet(2, 2, 4, 0), 8);
        Due.pits("those behind it have 0", x, 4, 4, 0, 0, 0, 0);
        Due.same("more entries than pits", x.sheet(2, 12, 1, 0), 6);
        Due.same("bytes", x.sheet(0, 4, 255, 1), 0 + 0 + 1 + 2);
        Due.pits("bytes with their sign", x, 0, 0, 1, 2, 0, 0);
        Due.same("byte 128", x.sheet(0, 2, 127, 1), 9);
        Due.same("shorts", x.sheet(1, 3, 65535, 1), 0 + 0 + 1);
        Due.same("short 32768", x.sheet(1, 2, 32767, 1), 9);
        Due.same("a short of 256", x.sheet(1, 1, 256, 0), 9);
        Due.same("a byte of 256", x.sheet(0, 1, 256, 0), 0);
        Due.same("ints that go round", x.sheet(2, 2, Integer.MAX_VALUE, 1), 9);
        Due.same("below 0", x.sheet(2, 6, -5, 1), 0);
        Due.same("no entry", x.sheet(2, 0, 5, 5), 0);
        Due.same("five", x.sheet(2, 1, 5, 5), 5);
        Due.same("n below 0", x.sheet(1, -1, 5, 5), -2);
        Due.same("nothing changed", x.count(3), 5);
        Due.same("n above 12", x.sheet(1, 13, 5, 5), Due.NONE);
        Due.same("kind 4", x.sheet(4, -1, 5, 5), Due.NONE);
        Due.same("kind -1", x.sheet(-1, 1, 5, 5), Due.NONE);
        Due.same("missing, n above 12", x.sheet(3, 13, 5, 5), Due.NONE);
        Due.same("nothing changed", x.count(3), 5);
        Due.same("missing", x.sheet(3, -1, 5, 5), -3);
        Due.pits("missing", x, 0, 0, 0, 0, 0, 0);
        x.sheet(2, 6, 2, 0);
        x.passes();
        x.sheet(2, 6, 1, 0);
        Due.same("a sheet can't be undone", x.count(8), 1);
        Due.same("undo behind a sheet", x.undo(), 0);
        Due.pits("brings seeds back", x, 2, 2, 2, 2, 2, 2);
    }
}
