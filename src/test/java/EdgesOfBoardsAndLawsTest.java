import java.util.function.Consumer;

/** Promises 1 to 9. */
public final class EdgesOfBoardsAndLawsTest {
    private static final int MIN = Integer.MIN_VALUE;
    private static final int MAX = Integer.MAX_VALUE;
    private static final Consumer<SowingBoards> RICH = Twins::rich;

    public static void main(String[] args) {
        Edges.run(EdgesOfBoardsAndLawsTest.class);
    }

    // ---- promise 1

    static void promise01ThreeColumnsWith3SeedsInEachPit() {
        SowingBoards x = new SowingBoards();
        Due.same("COLUMNS", x.count(0), 3);
        Due.same("SEEDS", x.count(3), 18);
        Due.pits("new", x, 3, 3, 3, 3, 3, 3);
    }

    static void promise01BothStoresAre0() {
        Due.stores("new", new SowingBoards(), 0, 0);
    }

    static void promise01TurnIsOfSide0AndMovesAre0() {
        SowingBoards x = new SowingBoards();
        Due.same("TURN", x.count(1), 0);
        Due.same("MOVES", x.count(2), 0);
        Due.same("not over", x.count(4), 0);
    }

    static void promise01TheLawsAreSCX() {
        SowingBoards x = new SowingBoards();
        Due.same("LAWS", x.count(5), 1 + 4 + 16);
        // 3 SEEDS of PIT 0: the STORE, and TURN stays; then PIT 0 again is empty.
        Due.same("s", x.moves(0), 1);
        Due.row("s and x", x, 1, Due.STORE, 0);
        SowingBoards y = new SowingBoards();
        y.sheet(2, 1, 1, 0);
        y.adds(4, 5);
        Due.same("c", y.moves(0), 6);
    }

    static void promise01TheRuleIsNone() {
        SowingBoards x = new SowingBoards();
        x.worth(0);
        Due.row("t*3+a*2 of 1 SEED and TURN", x, 5);
        x.worth(1);
        Due.row("t*3+a*2 of 1 SEED", x, 3);
    }

    static void promise01NothingHeardSeenKeptToldOrUndone() {
        SowingBoards x = new SowingBoards();
        for (int what = 6; what <= 10; what++) {
            Due.same("count(" + what + ")", x.count(what), 0);
        }
        Due.row("new", x);
        Due.same("undo()", x.undo(), Due.NONE);
        Due.same("again(0)", x.again(0), false);
        Due.same("again(1)", x.again(1), false);
        Due.same("forget()", x.forget(), 0);
        Due.same("denies()", x.denies(), 0);
        Due.same("end(1)", x.end(1), false);
    }

    // ---- promise 2

    static void promise02EightySignsAreTaken() {
        SowingBoards x = new SowingBoards();
        for (int i = 1; i <= 20; i++) {
            Due.same("sign", x.sign(0x31313131), 4 * i);
        }
        Due.same("signs of THE TEXT", x.count(10), 80);
    }

    static void promise02MoreThan80AreRefused() {
        for (int signs = 77; signs <= 80; signs++) {
            int left = signs;
            Twins.nothing("four more than " + signs, x -> filled(x, left), x -> x.sign(0x31313131), Due.NONE);
        }
    }

    static void promise02JustUpTo80IsTaken() {
        SowingBoards x = new SowingBoards();
        filled(x, 76);
        Due.same("four more than 76", x.sign(0), 80);
        filled(x, 75);
        Due.same("four more than 75", x.sign(0), 79);
    }

    private static void filled(SowingBoards x, int signs) {
        Due.text(x, Due.times("2", 80));
        x.end(signs);
    }

    static void promise02TheHighestByteFirst() {
        SowingBoards x = new SowingBoards();
        x.sign('2' << 24 | '1' << 16 | '2' << 8 | '3');
        x.sign('4' << 24 | 0xFFFFFF);
        x.end(5);
        Due.same("board", x.board(), 10);
        Due.pits("board", x, 1, 2, 3, 4);
    }

    static void promise02EachByteIsASignFrom0To255() {
        SowingBoards x = new SowingBoards();
        Due.same("all bits", x.sign(-1), 4);
        Due.same("255 is no digit", x.board(), -1);
        x.sign(0);
        Due.same("0 is no digit", x.board(), -1);
        // A sign 128 above a digit is none.
        x.sign(0xB2313131);
        x.sign(0x31000000);
        x.end(5);
        Due.same("178", x.board(), -1);
        x.sign(0x3231B131);
        x.sign(0x31000000);
        x.end(5);
        Due.same("177", x.board(), -3);
    }

    static void promise02FourSignsBehindTheText() {
        SowingBoards x = new SowingBoards();
        x.sign(0x32310000);
        x.end(2);
        Due.same("behind 2", x.sign(0x32330000), 6);
        x.end(4);
        Due.same("behind 4", x.sign(0x34FFFFFF), 8);
        x.end(5);
        Due.same("board", x.board(), 10);
        Due.pits("board", x, 1, 2, 3, 4);
    }

    // ---- promise 3

    static void promise03TheFirstNSignsAlone() {
        for (int n = 0; n <= 5; n++) {
            SowingBoards x = new SowingBoards();
            Due.text(x, "21234");
            Due.same("end(" + n + ")", x.end(n), true);
            Due.same("signs", x.count(10), n);
            Due.same("board", x.board(), n < 5 ? -1 - n : 10);
        }
    }

    static void promise03AsManyAsItHas() {
        Twins.nothing("end(5)", RICH, x -> x.end(5) ? 1 : 0, 1);
        SowingBoards x = new SowingBoards();
        Due.same("end(0) of none", x.end(0), true);
        filled(x, 80);
        Due.same("end(80)", x.end(80), true);
        Due.same("signs", x.count(10), 80);
    }

    static void promise03FalseIfItHasNotSoMany() {
        Twins.nothing("end(6)", RICH, x -> x.end(6) ? 1 : 0, 0);
        Twins.nothing("end(80)", RICH, x -> x.end(80) ? 1 : 0, 0);
        Twins.nothing("end(MAX)", RICH, x -> x.end(MAX) ? 1 : 0, 0);
        Twins.nothing("end(1) of none", x -> x.end(0), x -> x.end(1) ? 1 : 0, 0);
        Twins.nothing("end(81) of 80", x -> filled(x, 80), x -> x.end(81) ? 1 : 0, 0);
    }

    static void promise03FalseBelow0() {
        Twins.nothing("end(-1)", RICH, x -> x.end(-1) ? 1 : 0, 0);
        Twins.nothing("end(MIN)", RICH, x -> x.end(MIN) ? 1 : 0, 0);
    }

    // ---- promise 4

    static void promise04ColumnsAre2To6() {
        for (int c = 2; c <= 6; c++) {
            SowingBoards x = new SowingBoards();
            Due.same("board of " + c, Due.board(x, c + Due.times("1", 2 * c)), 2 * c);
            Due.same("COLUMNS", x.count(0), c);
            Due.pits("board of " + c, x, Due.counted(2 * c, 1));
        }
    }

    static void promise04OtherColumnsCantStandThere() {
        for (char sign = 0; sign < 256; sign++) {
            if (sign < '2' || sign > '6') {
                wrongBoard(sign + Due.times("1", 12), 0);
            }
        }
    }

    static void promise04SeedsAre0To9() {
        SowingBoards x = new SowingBoards();
        Due.same("the least", Due.board(x, "20000"), 0);
        Due.pits("the least", x, 0, 0, 0, 0);
        Due.same("the most", Due.board(x, "6" + Due.times("9", 12)), 108);
        Due.pits("the most", x, Due.counted(12, 9));
        Due.same("each", Due.board(x, "50123456789"), 45);
        Due.pits("each", x, 0, 1, 2, 3, 4, 5, 6, 7, 8, 9);
    }

    static void promise04ASignThatIsNoDigitAtEachPlace() {
        for (int c = 2; c <= 6; c++) {
            String board = c + Due.times("1", 2 * c);
            for (int p = 1; p <= 2 * c; p++) {
                wrongBoard(board.substring(0, p) + "x" + board.substring(p + 1), p);
                wrongBoard(board.substring(0, p) + "/" + board.substring(p + 1), p);
                wrongBoard(board.substring(0, p) + ":" + board.substring(p + 1), p);
            }
        }
    }

    static void promise04ItsEndIfItEndsTooEarly() {
        for (int c = 2; c <= 6; c++) {
            String board = c + Due.times("1", 2 * c);
            for (int n = 0; n <= 2 * c; n++) {
                wrongBoard(board.substring(0, n), n);
            }
        }
    }

    static void promise04OneTooManyIsToldAtIt() {
        for (int c = 2; c <= 6; c++) {
            String board = c + Due.times("1", 2 * c);
            wrongBoard(board + "1", 2 * c + 1);
            wrongBoard(board + "x", 2 * c + 1);
            wrongBoard(board + "\0", 2 * c + 1);
            wrongBoard(board + Due.times("1", 79 - 2 * c), 2 * c + 1);
        }
    }

    static void promise04TheFirstWrongSignIsTold() {
        wrongBoard("2x1y1", 1);
        wrongBoard("2x111111", 1);
        wrongBoard("x", 0);
    }

    /** It is refused at a place, and changes nothing but THE TEXT. */
    private static void wrongBoard(String board, int place) {
        Twins.textAlone("board " + board, x -> {
            RICH.accept(x);
            Due.text(x, board);
        }, x -> x.board(), -1 - place);
    }

    static void promise04StoresTurnAndMovesAre0Then() {
        SowingBoards x = new SowingBoards();
        RICH.accept(x);
        Due.same("board", x.board(), 10);
        Due.pits("board", x, 1, 2, 3, 4);
        Due.stores("board", x, 0, 0);
        Due.same("TURN", x.count(1), 0);
        Due.same("MOVES", x.count(2), 0);
        Due.same("can be undone", x.count(8), 0);
    }

    static void promise04LawsRuleHeardSeenAndRowStay() {
        SowingBoards x = new SowingBoards();
        RICH.accept(x);
        x.board();
        Due.same("LAWS", x.count(5), 19);
        Due.same("heard", x.count(6), 4);
        Due.same("seen", x.count(7), 2);
        Due.row("the ROW", x, 1, 7, 0);
        x.worth(1);
        // p*3-n+o of PIT 1: 2 SEEDS, then a LAP of 4 from PIT 2, then 2 1 0 5.
        Due.row("THE RULE", x, 3 - 2 + 5);
    }

    static void promise04PitsOfAGreaterBoardAreGone() {
        SowingBoards x = new SowingBoards();
        Due.board(x, "6" + Due.times("9", 12));
        Due.board(x, "21111");
        Due.pits("of 2 COLUMNS", x, 1, 1, 1, 1);
        Due.same("SEEDS", x.count(3), 4);
        Due.board(x, "3" + Due.times("0", 6));
        Due.same("SEEDS of none", x.count(3), 0);
    }

    // ---- promise 5

    static void promise05EachLetterIsALaw() {
        String letters = "srckxt";
        for (int i = 0; i < 6; i++) {
            SowingBoards x = new SowingBoards();
            Due.same("laws " + letters.charAt(i), Due.laws(x, letters.substring(i, i + 1)), 1);
            Due.same("its sum", x.count(5), 1 << i);
        }
    }

    static void promise05AllSetsHowMany() {
        String letters = "srckxt";
        for (int set = 0; set < 64; set++) {
            StringBuilder text = new StringBuilder();
            for (int i = 0; i < 6; i++) {
                text.append((set >> i & 1) == 1 ? letters.substring(i, i + 1) : "");
            }
            SowingBoards x = new SowingBoards();
            Due.same("laws " + text, Due.laws(x, text.toString()), Integer.bitCount(set));
            Due.same("sum of " + text, x.count(5), set);
            Due.same("backwards", Due.laws(x, text.reverse().toString()), Integer.bitCount(set));
            Due.same("sum of " + text, x.count(5), set);
        }
    }

    static void promise05AnEmptyTextIsNoLaws() {
        SowingBoards x = new SowingBoards();
        Due.same("no LAWS", x.laws(), 0);
        Due.same("their sum", x.count(5), 0);
    }

    static void promise05ALetterThatWasThereIsToldAtIt() {
        String letters = "srckxt";
        for (int i = 0; i < 6; i++) {
            wrongLaws(letters.charAt(i) + "" + letters.charAt(i), 1);
            wrongLaws(letters + letters.charAt(i), 6);
        }
        wrongLaws("srs", 2);
        wrongLaws("srsr", 2);
    }

    static void promise05AnotherSignCantStandThere() {
        for (char sign = 0; sign < 256; sign++) {
            if ("srckxt".indexOf(sign) < 0) {
                wrongLaws("" + sign, 0);
                wrongLaws("srckxt" + sign, 6);
            }
        }
    }

    private static void wrongLaws(String laws, int place) {
        SowingBoards x = Due.made("21201", "sk");
        x.would(0);
        Due.same("laws " + laws, Due.laws(x, laws), -1 - place);
        Due.same("THE TEXT is read", x.count(10), 0);
        Due.same("LAWS stay", x.count(5), 9);
        Due.same("the ROW stays", x.count(9), 3);
    }

    static void promise05WrongLawsChangeNothing() {
        Twins.textAlone("laws ss", x -> {
            RICH.accept(x);
            Due.text(x, "tt");
        }, x -> x.laws(), -2);
    }

    static void promise05TheLawsAheadAreGone() {
        SowingBoards x = Due.made("21201", "srckxt");
        Due.laws(x, "k");
        Due.same("the sum", x.count(5), 8);
    }

    // ---- promise 6 (which texts: EdgesOfTheRuleTest)

    static void promise06AWrongRuleChangesNothing() {
        for (String rule : new String[] {"x", "1+", "(1", "1<2<3", "1000", Due.times("-", 40) + "1", ")"}) {
            int place = "x)".contains(rule) ? 0 : rule.length() > 40 ? 40 : rule.length() == 5 ? 3 : rule.equals("1000") ? 3 : 2;
            Twins.textAlone("rule " + rule, x -> {
                RICH.accept(x);
                Due.text(x, rule);
            }, x -> x.rule(), -1 - place);
        }
    }

    static void promise06TheRuleAheadIsGone() {
        SowingBoards x = Due.made("21201", "scx");
        Due.same("rule", Due.rule(x, "1+2+3+4"), 0);
        Due.same("rule", Due.rule(x, "n"), 0);
        x.worth(1);
        Due.row("n", x, 2);
        Due.same("an empty one", x.rule(), 0);
        x.worth(1);
        Due.row("none: t*3+a*2", x, 3);
    }

    static void promise06TheRuleChangesNothingElse() {
        SowingBoards x = new SowingBoards();
        RICH.accept(x);
        Due.rule(x, "t");
        Due.row("the ROW stays", x, 1, 7, 0);
        Due.same("can be undone", x.count(8), 4);
        Due.same("LAWS", x.count(5), 19);
        Due.same("again(1)", x.again(1), true);
    }

    // ---- promises 7 and 8

    static void promise07TheFirstAndTheLastPit() {
        for (int c = 2; c <= 6; c++) {
            SowingBoards x = new SowingBoards();
            Due.board(x, c + "7" + Due.times("1", 2 * c - 2) + "8");
            Due.same("pit(0)", Due.pitOf(x, 0), 7);
            Due.same("pit(last)", Due.pitOf(x, 2 * c - 1), 8);
        }
    }

    static void promise07NoSuchPit() {
        for (int c = 2; c <= 6; c++) {
            for (int pit : new int[] {MIN, -1, 2 * c, 2 * c + 1, 12, 50, MAX}) {
                String board = c + Due.times("1", 2 * c);
                Twins.nothing("pit(" + pit + ")", x -> Due.board(x, board), x -> Due.pitOf(x, pit), Due.THROWS);
            }
        }
        Twins.nothing("pit(8) of 4 COLUMNS", RICH, x -> Due.pitOf(x, 8), Due.THROWS);
    }

    static void promise08BothSides() {
        SowingBoards x = Sown.board("s", 0, 0, 1, 0, 2);
        x.moves(1);
        x.moves(1);
        x.adds(3, 1);
        x.passes();
        x.moves(1);
        Due.same("store(0)", Due.storeOf(x, 0), 1);
        Due.same("store(1)", Due.storeOf(x, 1), 2);
    }

    static void promise08AnotherSide() {
        for (int side : new int[] {MIN, -1, 2, 3, MAX}) {
            Twins.nothing("store(" + side + ")", RICH, x -> Due.storeOf(x, side), Due.THROWS);
        }
    }

    // ---- promise 9

    private static void sheet(int kind, int n, int f, int step, int... pits) {
        SowingBoards x = new SowingBoards();
        int sum = 0;
        for (int seeds : pits) {
            sum += seeds;
        }
        String call = "sheet(" + kind + ", " + n + ", " + f + ", " + step + ")";
        Due.same(call, x.sheet(kind, n, f, step), sum);
        Due.pits(call, x, pits);
    }

    static void promise09EntriesFAndStepOn() {
        sheet(0, 6, 1, 1, 1, 2, 3, 4, 5, 6);
        sheet(1, 6, 9, -2, 9, 7, 5, 3, 1, 0);
        sheet(2, 6, 4, 0, 4, 4, 4, 4, 4, 4);
    }

    static void promise09PutTo0To9() {
        for (int kind = 0; kind <= 2; kind++) {
            sheet(kind, 4, 8, 1, 8, 9, 9, 9, 0, 0);
            sheet(kind, 4, 1, -1, 1, 0, 0, 0, 0, 0);
        }
    }

    static void promise09BytesAreTheLowestBitsWithTheirSign() {
        sheet(0, 2, 127, 1, 9, 0, 0, 0, 0, 0);
        sheet(0, 3, 255, 1, 0, 0, 1, 0, 0, 0);
        sheet(0, 3, 256 + 9, 256, 9, 9, 9, 0, 0, 0);
        sheet(0, 2, -129, 1, 9, 0, 0, 0, 0, 0);
        sheet(0, 2, -256 + 5, 1, 5, 6, 0, 0, 0, 0);
        sheet(0, 1, 65536 + 128, 0, 0, 0, 0, 0, 0, 0);
    }

    static void promise09ShortsAreTheLowestBitsWithTheirSign() {
        sheet(1, 2, 32767, 1, 9, 0, 0, 0, 0, 0);
        sheet(1, 3, 65535, 1, 0, 0, 1, 0, 0, 0);
        sheet(1, 3, 65536 + 9, 65536, 9, 9, 9, 0, 0, 0);
        sheet(1, 2, -32769, 1, 9, 0, 0, 0, 0, 0);
        sheet(1, 2, 128, 1, 9, 9, 0, 0, 0, 0);
    }

    static void promise09IntsAsTheyAre() {
        sheet(2, 2, 65536, -65536, 9, 0, 0, 0, 0, 0);
        sheet(2, 2, -65536, 65539, 0, 3, 0, 0, 0, 0);
        sheet(2, 1, MAX, 0, 9, 0, 0, 0, 0, 0);
        sheet(2, 1, MIN, 0, 0, 0, 0, 0, 0, 0);
    }

    static void promise09EntriesWrapAroundAsInts() {
        sheet(2, 2, MAX, 1, 9, 0, 0, 0, 0, 0);
        sheet(2, 3, 1, MIN, 1, 0, 1, 0, 0, 0);
        sheet(2, 2, MIN, -1, 0, 9, 0, 0, 0, 0);
    }

    static void promise09PitsBehindTheEntriesHave0() {
        for (int n = 0; n <= 6; n++) {
            int[] pits = new int[6];
            for (int pit = 0; pit < n; pit++) {
                pits[pit] = 2;
            }
            sheet(2, n, 2, 0, pits);
        }
    }

    static void promise09EntriesBehindThePitsAreNotRead() {
        sheet(2, 7, 2, 0, 2, 2, 2, 2, 2, 2);
        sheet(2, 12, 2, 0, 2, 2, 2, 2, 2, 2);
        SowingBoards x = new SowingBoards();
        Due.board(x, "20000");
        x.sheet(2, 12, 5, 0);
        Due.board(x, "3000000");
        Due.same("nothing is left of them", x.count(3), 0);
    }

    static void promise09TwelveEntriesAreTaken() {
        for (int kind = 0; kind <= 2; kind++) {
            SowingBoards x = new SowingBoards();
            Due.board(x, "6" + Due.times("0", 12));
            Due.same("12 entries of kind " + kind, x.sheet(kind, 12, 3, 0), 36);
            Due.pits("12 entries", x, Due.counted(12, 3));
        }
    }

    static void promise09MoreThan12AreRefused() {
        for (int kind = 0; kind <= 3; kind++) {
            int of = kind;
            Twins.nothing("13 of kind " + kind, RICH, x -> x.sheet(of, 13, 1, 1), Due.NONE);
            Twins.nothing("MAX of kind " + kind, RICH, x -> x.sheet(of, MAX, 1, 1), Due.NONE);
        }
    }

    static void promise09AnotherKindIsRefused() {
        for (int kind : new int[] {MIN, -1, 4, MAX}) {
            for (int n : new int[] {MIN, -1, 0, 12, 13}) {
                Twins.nothing("kind " + kind, RICH, x -> x.sheet(kind, n, 1, 1), Due.NONE);
            }
        }
    }

    static void promise09BelowNoEntryNothingChanges() {
        for (int kind = 0; kind <= 2; kind++) {
            int of = kind;
            Twins.nothing("-1 of kind " + kind, RICH, x -> x.sheet(of, -1, 1, 1), -2);
            Twins.nothing("MIN of kind " + kind, RICH, x -> x.sheet(of, MIN, 1, 1), -2);
        }
    }

    static void promise09AMissingOneMakesAll0() {
        for (int n : new int[] {MIN, -1, 0, 5, 12}) {
            SowingBoards x = new SowingBoards();
            Due.same("missing, n " + n, x.sheet(3, n, 5, 1), -3);
            Due.pits("missing", x, 0, 0, 0, 0, 0, 0);
        }
    }

    static void promise09SeedsOfPitsAlone() {
        for (int kind = 0; kind <= 3; kind++) {
            SowingBoards x = new SowingBoards();
            RICH.accept(x);
            x.sheet(kind, 3, 1, 1);
            Due.stores("a sheet of kind " + kind, x, 1, 3);
            Due.same("TURN", x.count(1), 1);
            Due.same("MOVES", x.count(2), 3);
            Due.same("COLUMNS", x.count(0), 4);
            Due.same("THE TEXT", x.count(10), 5);
            Due.row("the ROW", x, 1, 7, 0);
        }
    }

    static void promise09SeedsOfAllPitsAreTold() {
        SowingBoards x = new SowingBoards();
        RICH.accept(x);
        Due.same("without the STORES", x.sheet(2, 3, 1, 1), 6);
    }

    static void promise09NothingIsKeptThatCouldBeUndone() {
        SowingBoards x = new SowingBoards();
        x.sheet(2, 6, 1, 0);
        Due.same("can be undone", x.count(8), 0);
        Due.same("undo()", x.undo(), Due.NONE);
    }

    static void promise09AnUndoBehindItBringsSeedsBack() {
        SowingBoards x = new SowingBoards();
        x.sheet(2, 6, 2, 0);
        x.passes();
        x.sheet(3, 0, 0, 0);
        Due.same("can be undone", x.count(8), 1);
        Due.same("undo()", x.undo(), 0);
        Due.pits("as ahead of what is undone", x, 2, 2, 2, 2, 2, 2);
        Due.same("TURN", x.count(1), 0);
    }

    static void promise09WhatIsKeptStays() {
        SowingBoards x = new SowingBoards();
        x.keep(0);
        x.sheet(3, 0, 0, 0);
        Due.same("again(0)", x.again(0), true);
        Due.pits("as kept", x, 3, 3, 3, 3, 3, 3);
    }
}
