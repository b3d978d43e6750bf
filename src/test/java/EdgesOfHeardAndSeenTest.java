import java.util.function.Consumer;

/** Promises 35 to 42. */
public final class EdgesOfHeardAndSeenTest {
    private static final int MIN = Integer.MIN_VALUE;
    private static final int MAX = Integer.MAX_VALUE;
    private static final Consumer<SowingBoards> RICH = Twins::rich;
    private static final Consumer<SowingBoards> OVER = Twins::over;

    public static void main(String[] args) {
        Edges.run(EdgesOfHeardAndSeenTest.class);
    }

    // ---- promise 35

    private static void heardFrom0To(int what, int most) {
        for (int v = 0; v <= most; v++) {
            SowingBoards x = new SowingBoards();
            Due.same("heard(" + what + ", " + v + ")", x.heard(what, v), 1);
            Due.same("heard", x.count(6), 1);
        }
        for (int v : new int[] {MIN, -1, most + 1, most + 2, MAX}) {
            Twins.nothing("heard(" + what + ", " + v + ")", RICH, x -> x.heard(what, v), Due.NONE);
        }
    }

    static void promise35OfSide0Or1() {
        heardFrom0To(0, 1);
    }

    static void promise35ItHas0To9SeedsOrMore() {
        heardFrom0To(1, 9);
    }

    static void promise35ItsOppositeHas0To9SeedsOrMore() {
        heardFrom0To(2, 9);
    }

    static void promise35ThePit0To5OfItsSide() {
        heardFrom0To(3, 5);
    }

    static void promise35OfTheMoverOrNot() {
        heardFrom0To(4, 1);
    }

    static void promise35AnotherWhatIsRefused() {
        for (int what : new int[] {MIN, -1, 5, 6, MAX}) {
            for (int v = 0; v <= 1; v++) {
                int heard = v;
                Twins.nothing("heard(" + what + ", " + v + ")", RICH, x -> x.heard(what, heard), Due.NONE);
            }
        }
    }

    private static void heard12(SowingBoards x) {
        RICH.accept(x);
        for (int i = 5; i <= 12; i++) {
            Due.same("heard", x.heard(1, 1), i);
        }
    }

    static void promise35TwelveAreTaken() {
        SowingBoards x = new SowingBoards();
        for (int i = 1; i <= 12; i++) {
            Due.same("heard", x.heard(0, 0), i);
        }
        Due.same("12", x.count(6), 12);
    }

    static void promise35TheTwelfthCounts() {
        SowingBoards x = new SowingBoards();
        heard12(x);
        x.forget();
        for (int i = 1; i <= 11; i++) {
            x.heard(1, 0);
        }
        Due.same("11 that fit all", x.fits(), 255);
        x.heard(3, 0);
        Due.same("the twelfth", x.fits(), 1 + 16);
    }

    static void promise35AThirteenthIsRefused() {
        Twins.nothing("a thirteenth", EdgesOfHeardAndSeenTest::heard12, x -> x.heard(3, 1), Due.NONE);
        Twins.nothing("a wrong thirteenth", EdgesOfHeardAndSeenTest::heard12, x -> x.heard(5, 1), Due.NONE);
    }

    static void promise35TheSameAgainCounts() {
        SowingBoards x = new SowingBoards();
        x.heard(3, 2);
        Due.same("again", x.heard(3, 2), 2);
        Due.same("fits", x.fits(), 4 + 32);
    }

    static void promise35TheRowStays() {
        SowingBoards x = new SowingBoards();
        RICH.accept(x);
        Due.same("heard(0, 0)", x.heard(0, 0), 5);
        Due.row("heard(0, 0)", x, 1, 7, 0);
    }

    // ---- promise 36

    static void promise36HowManyThereWere() {
        SowingBoards x = new SowingBoards();
        Due.same("none", x.forget(), 0);
        x.heard(0, 0);
        Due.same("one", x.forget(), 1);
        Due.same("none", x.forget(), 0);
        heard12(x);
        Due.same("twelve", x.forget(), 12);
        Due.same("none is left", x.count(6), 0);
        Due.same("all fit", x.fits(), 255);
        for (int i = 1; i <= 12; i++) {
            Due.same("twelve more", x.heard(0, 0), i);
        }
    }

    static void promise36WhatWasSeenAndTheRowStay() {
        SowingBoards x = new SowingBoards();
        RICH.accept(x);
        Due.same("forget()", x.forget(), 4);
        Due.same("seen", x.count(7), 2);
        Due.row("the ROW", x, 1, 7, 0);
    }

    static void promise36NoneIsNotRefused() {
        Twins.nothing("forget()", x -> {
            RICH.accept(x);
            x.forget();
        }, x -> x.forget(), 0);
    }

    // ---- promise 37

    private static void fits(SowingBoards x, int bits, int... heard) {
        x.forget();
        for (int i = 0; i + 1 < heard.length; i += 2) {
            x.heard(heard[i], heard[i + 1]);
        }
        Due.same("fits()", x.fits(), bits);
        Due.row("fits()", x, Integer.bitCount(bits));
    }

    static void promise37AllIfNothingWasHeard() {
        for (int c = 2; c <= 6; c++) {
            fits(Sown.board("", 0, new int[2 * c]), (1 << 2 * c) - 1);
        }
    }

    static void promise37NoneFits() {
        fits(Sown.board("", 0, 1, 1, 1, 1), 0, 0, 0, 0, 1);
        fits(Sown.board("", 0, 1, 1, 1, 1), 0, 1, 2);
    }

    static void promise37OfASide() {
        for (int c = 2; c <= 6; c++) {
            SowingBoards x = Sown.board("", 0, new int[2 * c]);
            fits(x, (1 << c) - 1, 0, 0);
            fits(x, (1 << c) - 1 << c, 0, 1);
            x.passes();
            fits(x, (1 << c) - 1, 0, 0);
        }
    }

    static void promise37SoManySeedsOrMore() {
        SowingBoards x = Due.made("50123456789", "");
        for (int v = 0; v <= 9; v++) {
            fits(x, 1023 - ((1 << v) - 1), 1, v);
        }
        x = Sown.board("", 0, 10, 18, 0, 0);
        fits(x, 3, 1, 9);
    }

    static void promise37OppositeHasSoManySeedsOrMore() {
        SowingBoards x = Due.made("50123456789", "");
        for (int v = 0; v <= 9; v++) {
            // PIT 9 less i is opposite of PIT i, and has 9 less i.
            fits(x, (1 << 10 - v) - 1, 2, v);
        }
    }

    static void promise37ThePitOfItsSide() {
        for (int c = 2; c <= 6; c++) {
            SowingBoards x = Sown.board("", 0, new int[2 * c]);
            for (int v = 0; v <= 5; v++) {
                fits(x, v < c ? (1 << v) + (1 << c + v) : 0, 3, v);
            }
        }
    }

    static void promise37OfTheMoverNow() {
        for (int c = 2; c <= 6; c++) {
            SowingBoards x = Sown.board("", 0, new int[2 * c]);
            fits(x, (1 << c) - 1, 4, 1);
            fits(x, (1 << c) - 1 << c, 4, 0);
            x.passes();
            Due.same("not of THE MOVER now", x.fits(), (1 << c) - 1);
            fits(x, (1 << c) - 1 << c, 4, 1);
        }
    }

    static void promise37AllThatWasHeard() {
        SowingBoards x = Sown.board("", 0, 1, 2, 0, 2, 0, 3);
        fits(x, 2, 1, 2, 0, 0);
        fits(x, 32, 1, 2, 3, 2);
        fits(x, 1 + 32, 1, 1, 2, 1);
    }

    static void promise37OnTheBoardAsItIs() {
        SowingBoards x = Sown.board("", 0, 1, 0, 0, 0);
        x.heard(1, 1);
        Due.same("fits", x.fits(), 1);
        x.moves(0);
        Due.same("behind a MOVE", x.fits(), 2);
        x.undo();
        Due.same("undone", x.fits(), 1);
    }

    // ---- promise 38

    private static void asks(SowingBoards x, int question, int most) {
        Due.same("asks()", x.asks(), question);
        Due.row("asks()", x, most);
    }

    static void promise38NoneFits() {
        Twins.nothing("asks()", x -> {
            RICH.accept(x);
            x.heard(1, 9);
        }, x -> x.asks(), Due.NOTHING);
    }

    static void promise38OneFits() {
        SowingBoards x = Sown.board("", 0, 1, 0, 0, 0);
        x.heard(1, 1);
        asks(x, 0, 1);
    }

    static void promise38OfEqualOnesTheLeast() {
        // Side 0, side 1, and THE MOVER are as good: 0 is the least.
        asks(Sown.board("", 0, 1, 1, 1, 1), 0, 2);
        // Three PITS of side 0 that have 0, 5 and 9: 1 to 5 SEEDS or more leave 2, so do 6 to 9.
        SowingBoards x = Sown.board("", 0, 0, 5, 9, 0, 0, 0);
        x.heard(0, 0);
        asks(x, 11, 2);
    }

    static void promise38NineSeedsOrMore() {
        SowingBoards x = Sown.board("", 0, 8, 9, 0, 0);
        x.heard(0, 0);
        asks(x, 19, 1);
        x = Sown.board("", 0, 0, 0, 9, 8);
        x.heard(0, 0);
        asks(x, 29, 1);
    }

    static void promise38TenSeedsAreNotAsked() {
        // 9 SEEDS and 10 can't be told apart by SEEDS, but by which of the side it is.
        SowingBoards x = Sown.board("", 0, 9, 10, 10, 9);
        x.heard(0, 0);
        asks(x, 30, 1);
    }

    static void promise38ThePitOfItsSide() {
        SowingBoards x = Sown.board("", 0, Due.counted(12, 1));
        x.heard(0, 1);
        asks(x, 30, 5);
        // Of PITS 4 and 5 of side 0 the fourth is asked: 34.
        x = Sown.board("", 0, 0, 0, 0, 0, 1, 1, 0, 0, 0, 0, 0, 0);
        x.heard(1, 1);
        asks(x, 34, 1);
    }

    static void promise38TheFewestAtMost() {
        // 1 SEED or more leaves 1 or 5, which of its side 2 or 4 at most, the side 3.
        SowingBoards x = Sown.board("", 0, 1, 0, 0, 0, 0, 0);
        asks(x, 0, 3);
        x.heard(1, 0);
        x.heard(0, 0);
        asks(x, 11, 2);
    }

    static void promise38TwelveWereHeard() {
        SowingBoards x = new SowingBoards();
        for (int i = 0; i < 12; i++) {
            x.heard(0, 0);
        }
        asks(x, 30, 2);
    }

    // ---- promise 39

    static void promise39Pits0To5() {
        for (int p = 0; p <= 5; p++) {
            Due.same("saw(" + p + ", 0)", new SowingBoards().saw(p, 0), 1);
        }
        for (int p : new int[] {MIN, -1, 6, 7, MAX}) {
            Twins.nothing("saw(" + p + ", 0)", RICH, x -> x.saw(p, 0), Due.NONE);
            Twins.nothing("saw(" + p + ", 50)", RICH, x -> x.saw(p, 50), Due.NONE);
        }
    }

    static void promise39Places0To11And50() {
        for (int place = 0; place <= 11; place++) {
            Due.same("saw(0, " + place + ")", new SowingBoards().saw(0, place), 1);
        }
        Due.same("saw(0, 50)", new SowingBoards().saw(0, 50), 1);
        for (int place : new int[] {MIN, -1, 12, 13, 49, 51, MAX}) {
            Twins.nothing("saw(0, " + place + ")", RICH, x -> x.saw(0, place), Due.NONE);
        }
    }

    private static void seen10(SowingBoards x) {
        RICH.accept(x);
        for (int i = 3; i <= 10; i++) {
            Due.same("saw", x.saw(2, 7), i);
        }
    }

    static void promise39TenAreTaken() {
        SowingBoards x = new SowingBoards();
        for (int i = 1; i <= 10; i++) {
            Due.same("saw", x.saw(0, 0), i);
        }
        Due.same("10", x.count(7), 10);
    }

    static void promise39AnEleventhIsRefused() {
        Twins.nothing("an eleventh", EdgesOfHeardAndSeenTest::seen10, x -> x.saw(2, 6), Due.NONE);
        Twins.nothing("a wrong eleventh", EdgesOfHeardAndSeenTest::seen10, x -> x.saw(6, 6), Due.NONE);
    }

    static void promise39TheTenthCounts() {
        SowingBoards x = new SowingBoards();
        RICH.accept(x);
        x.denies();
        for (int i = 1; i <= 9; i++) {
            x.saw(2, 7);
        }
        Due.same("9", x.guess(), 64);
        x.saw(2, 6);
        Due.same("the tenth", x.guess(), 0);
    }

    static void promise39TheRowStays() {
        SowingBoards x = new SowingBoards();
        RICH.accept(x);
        Due.same("saw(0, 0)", x.saw(0, 0), 3);
        Due.row("saw(0, 0)", x, 1, 7, 0);
    }

    // ---- promise 40

    static void promise40HowManyThereWere() {
        SowingBoards x = new SowingBoards();
        Due.same("none", x.denies(), 0);
        x.saw(0, 0);
        Due.same("one", x.denies(), 1);
        Due.same("none", x.denies(), 0);
        seen10(x);
        Due.same("ten", x.denies(), 10);
        Due.same("none is left", x.count(7), 0);
        Due.same("all sets", x.guess(), 64);
        for (int i = 1; i <= 10; i++) {
            Due.same("ten more", x.saw(0, 0), i);
        }
    }

    static void promise40WhatWasHeardAndTheRowStay() {
        SowingBoards x = new SowingBoards();
        RICH.accept(x);
        Due.same("denies()", x.denies(), 2);
        Due.same("heard", x.count(6), 4);
        Due.row("the ROW", x, 1, 7, 0);
    }

    // ---- promise 41

    private static void guess(SowingBoards x, int sets, long... row) {
        Due.same("guess()", x.guess(), sets);
        Due.row("guess()", x, row);
    }

    static void promise41AllSetsIfNothingWasSeen() {
        guess(Sown.board("", 0, 1, 1, 1, 1), 64, 0, 0);
        guess(Sown.board("", 0, 0, 0, 0, 0), 64, 0, 0);
    }

    static void promise41NothingToldWithout() {
        Twins.rowAlone("none is left", x -> {
            RICH.accept(x);
            x.saw(2, 6);
        }, x -> x.guess(), 0);
        SowingBoards x = Sown.board("", 0, 1, 1, 1, 1);
        x.would(0);
        x.saw(0, 0);
        x.saw(0, 1);
        guess(x, 0);
    }

    static void promise41APitThatIsEmptyOrNotThere() {
        SowingBoards x = Sown.board("", 0, 0, 1, 1, 1);
        x.saw(0, 1);
        guess(x, 0);
        x.denies();
        for (int p = 2; p <= 5; p++) {
            x.saw(p, 3);
            guess(x, 0);
            x.denies();
        }
        // The PIT is of THE MOVER: PIT 1 of side 1 has a SEED.
        x.passes();
        x.saw(1, 50);
        guess(x, 32, 1, 1);
    }

    static void promise41TheLeastAndTheLettersInAllOfThem() {
        // 5 SEEDS of PIT 0: by s, s r, k r and s k r it is PIT 0; by k alone PIT 2; else PIT 1.
        SowingBoards x = Sown.board("", 0, 5, 0, 0, 0);
        x.saw(0, 0);
        guess(x, 32, 1, 0);
        x.denies();
        x.saw(0, 2);
        guess(x, 8, 8, 8);
        x.denies();
        x.saw(0, 1);
        guess(x, 24, 0, 0);
    }

    static void promise41AllThatWasSeen() {
        // By r PIT 0 goes on from PIT 1: by s, too, to the STORE, else to PIT 3.
        SowingBoards x = Sown.board("", 0, 1, 1, 0, 0, 0, 0);
        x.saw(0, 50);
        guess(x, 16, 3, 3);
        x.saw(1, 2);
        guess(x, 16, 3, 3);
        x.saw(0, 3);
        guess(x, 0);
        x.denies();
        x.saw(0, 3);
        guess(x, 16, 2, 2);
        x.denies();
        x.saw(0, 1);
        guess(x, 32, 0, 0);
    }

    static void promise41OnTheBoardAsItIs() {
        SowingBoards x = Sown.board("", 0, 0, 1, 0, 0);
        x.saw(1, 50);
        guess(x, 32, 1, 1);
        x.adds(1, 1);
        guess(x, 0);
        x.undo();
        guess(x, 32, 1, 1);
    }

    static void promise41TheLawsThatAreDoNotMatter() {
        for (String laws : new String[] {"", "s", "srckxt"}) {
            SowingBoards x = Sown.board(laws, 0, 0, 1, 0, 0);
            x.saw(1, 50);
            guess(x, 32, 1, 1);
            Due.same("LAWS stay", x.count(5), laws.isEmpty() ? 0 : laws.length() == 1 ? 1 : 63);
        }
    }

    // ---- promise 42

    private static void tries(SowingBoards x, int p, int most) {
        Due.same("tries()", x.tries(), p);
        Due.row("tries()", x, most);
    }

    static void promise42NoneIsLeft() {
        Twins.nothing("none is left", x -> {
            RICH.accept(x);
            x.saw(2, 6);
        }, x -> x.tries(), Due.NOTHING);
    }

    static void promise42Over() {
        Twins.nothing("over", x -> {
            OVER.accept(x);
            x.denies();
        }, x -> x.tries(), Due.NOTHING);
        Twins.nothing("over though the other side has SEEDS", x -> {
            Due.board(x, "20011");
            x.reach(0);
        }, x -> x.tries(), Due.NOTHING);
        Twins.nothing("over and none is left", OVER, x -> x.tries(), Due.NOTHING);
    }

    static void promise42PitsThatAreNotEmptyAlone() {
        for (int c = 2; c <= 6; c++) {
            int[] seeds = new int[2 * c];
            seeds[c - 1] = 1;
            // In the STORE by 32 sets, in the first PIT of the other side by 32.
            tries(Sown.board("", 0, seeds), c - 1, 32);
        }
    }

    static void promise42OfEqualOnesTheFirst() {
        // By PIT 0 the last SEED falls in PIT 1 whatever the LAWS are; by PITS 2 and 3 it is told apart by s.
        SowingBoards x = Sown.board("", 0, 1, 0, 2, 1, 0, 0, 0, 0);
        tries(x, 2, 32);
        x = Sown.board("", 0, 1, 0, 1, 0, 0, 0, 0, 0);
        tries(x, 0, 64);
        x = Sown.board("", 0, 0, 1, 0, 1, 0, 0, 0, 0, 0, 0, 0, 0);
        tries(x, 1, 64);
    }

    static void promise42OfTheSetsThatAreLeft() {
        SowingBoards x = Sown.board("", 0, 1, 0, 0, 1, 0, 0, 0, 0);
        tries(x, 3, 32);
        x.saw(3, 50);
        tries(x, 0, 32);
    }

    static void promise42WhereverTheLastSeedFalls() {
        // PIT 10 of 14 SEEDS: 24 sets lead to the STORE, 8 to PIT 11, 16 to PIT 0, 8 to PIT 1, 8 to PIT 5.
        SowingBoards x = Sown.board("", 1, 0, 0, 0, 0, 0, 0, 0, 0, 0, 0, 14, 0);
        tries(x, 4, 24);
        int[] places = {50, 11, 0, 1, 5};
        int[] sets = {24, 8, 16, 8, 8};
        for (int i = 0; i < places.length; i++) {
            x.denies();
            x.saw(4, places[i]);
            Due.same("sets by place " + places[i], x.guess(), sets[i]);
            tries(x, 4, sets[i]);
        }
    }
}
