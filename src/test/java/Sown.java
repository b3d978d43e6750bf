/** One MOVE by side 0 and, with the board turned round, by side 1: asked by would() first, then made. */
final class Sown {
    private final String laws;
    private final int columns;
    private final int[] seeds;
    private final int p;

    private Sown(String laws, int p, int[] seeds) {
        this.laws = laws;
        this.p = p;
        this.seeds = seeds;
        this.columns = seeds.length / 2;
    }

    static Sown by(String laws, int p, int... seeds) {
        return new Sown(laws, p, seeds);
    }

    /** An object with such SEEDS, whatever a digit can tell, and TURN of a side. */
    static SowingBoards board(String laws, int side, int... seeds) {
        SowingBoards x = Due.made(seeds.length / 2 + Due.times("0", seeds.length), laws);
        for (int pit = 0; pit < seeds.length; pit++) {
            for (int left = seeds[pit]; left > 0; left -= 9) {
                x.adds(pit, Math.min(9, left));
            }
        }
        if (side == 1) {
            x.passes();
        }
        return x;
    }

    /** The STORE of side 1 has 310 by sheets, more than could be told by adds(); all PITS are empty, TURN is of side 0. */
    static SowingBoards farBehind() {
        SowingBoards x = Due.made("20000", "c");
        for (int taken = 0; taken < 310; taken += 10) {
            x.passes();
            x.sheet(2, 4, 9, -4);
            x.moves(0);
        }
        x.sheet(3, 0, 0, 0);
        Due.stores("far behind", x, 0, 310);
        return x;
    }

    /** The place is told for side 0, and so are the SEEDS then. */
    void gives(int gain, int laps, int place, int... then) {
        gives(0, gain, laps, place, then);
        gives(1, gain, laps, place, then);
    }

    private void gives(int side, int gain, int laps, int place, int[] then) {
        String call = "PIT " + p + " of side " + side;
        SowingBoards x = board(laws, side, turned(seeds, side));
        int there = place == Due.STORE ? place : (place + side * columns) % (2 * columns);
        boolean stays = place == Due.STORE && laws.indexOf('x') >= 0;
        int turn = stays ? side : 1 - side;
        Due.same(call + ", would", x.would(p), gain);
        Due.row(call + ", would", x, laps, there, turn);
        Due.same(call, x.moves(p), gain);
        Due.row(call, x, laps, there, turn);
        Due.pits(call, x, turned(then, side));
        Due.stores(call, x, side == 0 ? gain : 0, side == 1 ? gain : 0);
        Due.same(call + ": TURN", x.count(1), turn);
        Due.same(call + ": MOVES", x.count(2), 1);
    }

    private int[] turned(int[] pits, int side) {
        int[] turned = new int[pits.length];
        for (int pit = 0; pit < pits.length; pit++) {
            turned[(pit + side * columns) % pits.length] = pits[pit];
        }
        return turned;
    }
}
