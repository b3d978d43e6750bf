import java.util.NoSuchElementException;

/** Sowing boards: what each call promises is told in ../shared/DOC.md. */
public final class SowingBoards {
    public static final int NONE = -1;

    // Answered where the call is allowed, but what it asks for is not there.
    private static final int NOTHING = -2;
    private static final int MISSING = -3;
    // What a reader of THE TEXT answers, if each sign can stand where it stands.
    private static final int FINE = -1;

    private static final int STORE = 50;
    private static final int LEAST_COLUMNS = 2;
    private static final int MOST_COLUMNS = 6;
    private static final int MOST_PITS = 12;
    private static final int MOST_SEEDS = 200;
    private static final int MOST_OF_A_DIGIT = 9;
    private static final int MOST_LAPS = 50;
    private static final int MOST_ACTS = 60;
    private static final int MOST_AHEAD = 60;
    private static final int MOST_TO_THE_END = 99;
    private static final int MOST_IN_A_TURN = 6;
    private static final int MOST_LOOKED_AHEAD = 4;
    private static final int MOST_REACHED = 3;
    private static final int MOST_LUCK = 108;
    private static final int MOST_ALONE = 99;
    private static final int MOST_ALONE_PITS = 20;
    private static final int MOST_HEARD = 12;
    private static final int MOST_SEEN = 10;
    private static final int MOST_KEPT = 2;
    private static final int MOST_BID = 9;
    private static final int MOST_VALUE = 20;
    private static final int OTHER_MOVES = 20;
    // Keeps differences of STORES apart from the answers below 0.
    private static final int MIDDLE = 300;
    // Far more rows of MOVES than any search can have (6 of 6 PITS: 55986).
    private static final int ENOUGH_ROWS = 1000000;

    private static final int LAW_S = 1;
    private static final int LAW_R = 2;
    private static final int LAW_C = 4;
    private static final int LAW_K = 8;
    private static final int LAW_X = 16;
    private static final int LAW_T = 32;
    private static final int LAW_SETS = 64;
    private static final String LAW_LETTERS = "srckxt";

    // The greatest v that may be heard of each what.
    private static final int[] MOST_TOLD = {1, 9, 9, 5, 1};

    private final Position now = new Position();
    private final Position before = new Position();
    private final Position ahead = new Position();
    private final Position[] kept = new Position[MOST_KEPT];
    private final boolean[] isKept = new boolean[MOST_KEPT];
    private final History history = new History();
    private final Signs text = new Signs();
    private final Numbers numbers = new Numbers();
    private final Move move = new Move();
    private final Player player = new Player();
    private final Tree tree = new Tree();
    private final Shelf shelf = new Shelf();
    private final RuleReader reader = new RuleReader();
    private final Rule theRule = new Rule();
    private final Rule greed = new Rule();
    private final Notes clues = new Notes(MOST_HEARD);
    private final Notes sights = new Notes(MOST_SEEN);
    private final int[] tally = new int[MOST_ALONE_PITS + 1];
    private int lawSet = LAW_S | LAW_C | LAW_X;

    public SowingBoards() {
        for (int i = 0; i < MOST_KEPT; i++) {
            kept[i] = new Position();
        }
        for (int pit = 0; pit < now.pits(); pit++) {
            now.seeds[pit] = 3;
        }
        greed.becomesThing('t');
    }

    // ---- boards, laws

    public int sign(int v) {
        return text.addFour(v) ? text.length : NONE;
    }

    public boolean end(int n) {
        return text.cut(n);
    }

    public int board() {
        int wrong = wrongInBoard();
        if (wrong == FINE) {
            setBoard();
        }
        text.clear();
        return wrong == FINE ? now.inPits() : -1 - wrong;
    }

    private int wrongInBoard() {
        int columns = text.digitAt(0);
        if (columns < LEAST_COLUMNS || columns > MOST_COLUMNS) {
            return 0;
        }
        int whole = 1 + 2 * columns;
        for (int i = 1; i < whole; i++) {
            if (text.digitAt(i) < 0) {
                return i;
            }
        }
        return text.length > whole ? whole : FINE;
    }

    private void setBoard() {
        now.columns = text.digitAt(0);
        for (int pit = 0; pit < MOST_PITS; pit++) {
            now.seeds[pit] = pit < now.pits() ? text.digitAt(1 + pit) : 0;
        }
        now.stores[0] = 0;
        now.stores[1] = 0;
        now.turn = 0;
        now.made = 0;
        history.clear();
        for (int i = 0; i < MOST_KEPT; i++) {
            isKept[i] = false;
        }
    }

    public int laws() {
        int told = readLaws();
        text.clear();
        if (told < 0) {
            return told;
        }
        lawSet = told;
        return Integer.bitCount(told);
    }

    /** The LAWS as a sum, or what laws() answers of a wrong sign. */
    private int readLaws() {
        int told = 0;
        for (int i = 0; i < text.length; i++) {
            int place = LAW_LETTERS.indexOf((char) text.at(i));
            int law = place < 0 ? 0 : 1 << place;
            if (law == 0 || (told & law) != 0) {
                return -1 - i;
            }
            told |= law;
        }
        return told;
    }

    public int rule() {
        int wrong = reader.read(text);
        text.clear();
        if (wrong != FINE) {
            return -1 - wrong;
        }
        theRule.take(reader.rule);
        return 0;
    }

    public int pit(int pit) throws NoSuchElementException {
        if (!now.hasPit(pit)) {
            throw new NoSuchElementException("no such pit");
        }
        return now.seeds[pit];
    }

    public int store(int side) throws NoSuchElementException {
        if (side != 0 && side != 1) {
            throw new NoSuchElementException("no such side");
        }
        return now.stores[side];
    }

    public int sheet(int kind, int n, int f, int step) {
        if (kind < 0 || kind > 3 || n > MOST_PITS) {
            return NONE;
        }
        boolean missing = kind == 3;
        if (!missing && n < 0) {
            return NOTHING;
        }
        int told = missing ? 0 : n;
        for (int pit = 0; pit < now.pits(); pit++) {
            now.seeds[pit] = pit < told ? entry(kind, f + pit * step) : 0;
        }
        return missing ? MISSING : now.inPits();
    }

    private static int entry(int kind, int value) {
        int told = kind == 0 ? (byte) value : kind == 1 ? (short) value : value;
        return Math.max(0, Math.min(MOST_OF_A_DIGIT, told));
    }

    // ---- moves

    public int moves(int p) {
        int refused = refusal(p);
        if (refused < 0) {
            return refused;
        }
        history.push(now);
        move.make(now, p, lawSet);
        numbers.tell(move.laps, move.place, now.turn);
        return move.gain;
    }

    /** What a call that asks PIT p answers without looking further, or 0. */
    private int refusal(int p) {
        if (p < 0 || p >= now.columns) {
            return NONE;
        }
        return now.canMove(p) ? 0 : NOTHING;
    }

    public int plays(int n) {
        if (n < 1 || n > MOST_AHEAD) {
            return NONE;
        }
        if (now.isOver()) {
            return NOTHING;
        }
        history.push(now);
        int played = playOn(now, n);
        numbers.tell(now.stores[0], now.stores[1]);
        return played;
    }

    private int playOn(Position board, int n) {
        int played = 0;
        while (played < n && player.play(board, theRule, lawSet)) {
            played++;
        }
        return played;
    }

    public int passes() {
        history.push(now);
        now.pass();
        return now.turn;
    }

    public int adds(int pit, int n) {
        if (!now.hasPit(pit) || n < 1 || n > MOST_OF_A_DIGIT) {
            return NONE;
        }
        if (now.inAll() + n > MOST_SEEDS) {
            return NOTHING;
        }
        history.push(now);
        now.seeds[pit] += n;
        return now.seeds[pit];
    }

    public int game() {
        int wrong = wrongInGame();
        if (wrong != FINE) {
            text.clear();
            return -1 - wrong;
        }
        before.take(now);
        int done = 0;
        while (done < text.length && doAct(text.at(done))) {
            done++;
        }
        if (done > 0) {
            history.push(before);
        }
        numbers.tell(done < text.length ? 1 : 0, now.turn);
        text.clear();
        return done;
    }

    private int wrongInGame() {
        for (int i = 0; i < text.length; i++) {
            if (i == MOST_ACTS || !isAct(text.at(i))) {
                return i;
            }
        }
        return FINE;
    }

    private static boolean isAct(int sign) {
        return sign >= '0' && sign <= '5' || sign == '*' || sign == '/';
    }

    private boolean doAct(int sign) {
        if (sign == '/') {
            now.pass();
            return true;
        }
        if (sign == '*') {
            return player.play(now, theRule, lawSet);
        }
        return move.make(now, sign - '0', lawSet);
    }

    public int undo() {
        return history.pop(now) ? history.size : NONE;
    }

    // ---- what a move does

    public int would(int p) {
        int refused = refusal(p);
        if (refused < 0) {
            return refused;
        }
        tryMove(p, lawSet);
        numbers.tell(move.laps, move.place, ahead.turn);
        return move.gain;
    }

    private boolean tryMove(int p, int laws) {
        ahead.take(now);
        return move.make(ahead, p, laws);
    }

    public int worth(int p) {
        int refused = refusal(p);
        if (refused < 0) {
            return refused;
        }
        tryMove(p, lawSet);
        numbers.tell(theRule.judge(move));
        return 0;
    }

    public int best() {
        int p = player.choose(now, theRule, lawSet);
        if (p == NONE) {
            return NOTHING;
        }
        numbers.tell(player.value);
        return p;
    }

    public int most() {
        int p = player.choose(now, greed, lawSet);
        if (p == NONE) {
            return NOTHING;
        }
        numbers.tell(p);
        return player.value;
    }

    public int chain() {
        if (now.isOver()) {
            return NOTHING;
        }
        int most = -1;
        tree.start(now, MOST_IN_A_TURN, true, lawSet);
        for (int i = 0; i < ENOUGH_ROWS && tree.step(); i++) {
            int gain = tree.here().stores[now.turn] - now.stores[now.turn];
            if (gain > most) {
                most = gain;
                tree.tellPath(numbers);
            }
        }
        return most;
    }

    public int longest() {
        if (now.isOver()) {
            return NOTHING;
        }
        int most = 0;
        tree.start(now, MOST_IN_A_TURN, true, lawSet);
        for (int i = 0; i < ENOUGH_ROWS && tree.step(); i++) {
            if (tree.depth > most) {
                most = tree.depth;
                tree.tellPath(numbers);
            }
        }
        return most;
    }

    public int threat() {
        ahead.take(now);
        ahead.pass();
        int p = player.choose(ahead, greed, lawSet);
        numbers.clear();
        if (p != NONE) {
            numbers.add(p);
        }
        return player.value;
    }

    public int risks(int p) {
        int refused = refusal(p);
        if (refused < 0) {
            return refused;
        }
        tryMove(p, lawSet);
        if (move.stays) {
            return 0;
        }
        player.choose(ahead, greed, lawSet);
        return player.value;
    }

    public int starves() {
        int starving = 0;
        for (int p = 0; p < now.columns; p++) {
            if (tryMove(p, lawSet) && ahead.isOver()) {
                starving |= 1 << p;
            }
        }
        numbers.tell(starving);
        return Integer.bitCount(starving);
    }

    // ---- looked ahead

    public int looks(int n) {
        if (n < 0 || n > MOST_LOOKED_AHEAD) {
            return NONE;
        }
        int lead = tree.duel(now, n, lawSet);
        tree.tellDuel(numbers);
        return MIDDLE + lead;
    }

    public int ways(int pit, int n) {
        if (!now.hasPit(pit) || n < 0 || n > MOST_LOOKED_AHEAD) {
            return NONE;
        }
        int found = 0;
        numbers.clear();
        tree.start(now, n, false, lawSet);
        for (int i = 0; i < ENOUGH_ROWS; i++) {
            if (tree.depth == n && tree.here().seeds[pit] == 0) {
                if (found == 0) {
                    tree.tellPath(numbers);
                }
                found++;
            }
            if (!tree.step()) {
                break;
            }
        }
        return found;
    }

    public int reach(int n) {
        if (n < 0 || n > MOST_REACHED) {
            return NONE;
        }
        int least = 0;
        int greatest = 0;
        shelf.clear();
        tree.start(now, n, false, lawSet);
        for (int i = 0; i < ENOUGH_ROWS; i++) {
            if (tree.depth == n) {
                int stored = tree.here().stores[now.turn];
                least = shelf.size == 0 ? stored : Math.min(least, stored);
                greatest = Math.max(greatest, stored);
                shelf.putNew(tree.here());
            }
            if (!tree.step()) {
                break;
            }
        }
        numbers.clear();
        if (shelf.size > 0) {
            numbers.tell(least, greatest);
        }
        return shelf.size;
    }

    public int luck(int n, int g) {
        if (n < 0 || n > MOST_LOOKED_AHEAD || g < 0 || g > MOST_LUCK) {
            return NONE;
        }
        long lucky = 0;
        tree.start(now, n, false, lawSet);
        for (int i = 0; i < ENOUGH_ROWS; i++) {
            if (tree.isAtEnd() && tree.here().stores[0] >= g) {
                lucky += tree.share();
            }
            if (!tree.step()) {
                break;
            }
        }
        tellFraction(lucky, Tree.WHOLE);
        return 0;
    }

    private void tellFraction(long upper, long lower) {
        long divisor = lower;
        long rest = upper;
        // Euclid's way halves the numbers in two steps, so 200 are enough for any longs.
        for (int i = 0; i < 200 && rest != 0; i++) {
            long next = divisor % rest;
            divisor = rest;
            rest = next;
        }
        if (divisor != 0) {
            numbers.tell(upper / divisor, lower / divisor);
        }
    }

    // ---- by the rule (THE RULE plays both sides)

    public int when(int pit) {
        if (!now.hasPit(pit)) {
            return NONE;
        }
        ahead.take(now);
        for (int n = 0; n <= MOST_AHEAD; n++) {
            if (ahead.seeds[pit] == 0) {
                numbers.tell(ahead.stores[0], ahead.stores[1]);
                return n;
            }
            if (!player.play(ahead, theRule, lawSet)) {
                return NOTHING;
            }
        }
        return NOTHING;
    }

    public int ends() {
        ahead.take(now);
        int played = playOn(ahead, MOST_TO_THE_END);
        if (!ahead.isOver()) {
            return NOTHING;
        }
        numbers.tell(ahead.ownedBy(0), ahead.ownedBy(1));
        return played;
    }

    public int round() {
        shelf.clear();
        shelf.put(now);
        ahead.take(now);
        for (int n = 1; n <= MOST_AHEAD; n++) {
            if (!player.play(ahead, theRule, lawSet)) {
                return NOTHING;
            }
            int earlier = shelf.find(ahead);
            if (earlier >= 0) {
                numbers.tell(earlier);
                return n;
            }
            shelf.put(ahead);
        }
        return NOTHING;
    }

    public int fullest(int n) {
        if (n < 0 || n > MOST_AHEAD) {
            return NONE;
        }
        ahead.take(now);
        playOn(ahead, n);
        int full = 0;
        for (int pit = 1; pit < ahead.pits(); pit++) {
            if (ahead.seeds[pit] > ahead.seeds[full]) {
                full = pit;
            }
        }
        numbers.tell(ahead.seeds[full]);
        return full;
    }

    // ---- alone

    public int alone(int n) {
        if (n < 0 || n > MOST_ALONE) {
            return NONE;
        }
        clearTally();
        for (int i = 0; i < n; i++) {
            unsow();
        }
        int needed = 0;
        for (int pit = 1; pit <= MOST_ALONE_PITS; pit++) {
            needed = tally[pit] > 0 ? pit : needed;
        }
        numbers.clear();
        for (int pit = 1; pit <= needed; pit++) {
            numbers.add(tally[pit]);
        }
        return needed;
    }

    /** Takes back the only lift that can lead to the row: that of its first empty PIT. */
    private void unsow() {
        int pit = 1;
        while (pit < MOST_ALONE_PITS && tally[pit] > 0) {
            tally[pit]--;
            pit++;
        }
        tally[pit] = pit;
    }

    private void clearTally() {
        for (int i = 0; i < tally.length; i++) {
            tally[i] = 0;
        }
    }

    public int comes() {
        int wrong = wrongInRow();
        int answer = wrong == FINE ? liftAll() : -1 - wrong;
        text.clear();
        return answer;
    }

    private int wrongInRow() {
        for (int i = 0; i < text.length; i++) {
            if (i == MOST_ALONE_PITS || text.digitAt(i) < 0) {
                return i;
            }
        }
        return text.length == 0 ? 0 : FINE;
    }

    private int liftAll() {
        clearTally();
        int seeds = 0;
        for (int i = 0; i < text.length && i < MOST_ALONE_PITS; i++) {
            tally[i + 1] = text.digitAt(i);
            seeds += text.digitAt(i);
        }
        int lifted = 0;
        // Each lift brings one SEED to the store, so there are no more lifts than SEEDS.
        while (lifted < seeds && liftLeast()) {
            lifted++;
        }
        numbers.tell(lifted, seeds - lifted);
        return lifted;
    }

    private boolean liftLeast() {
        int pit = 1;
        while (pit < MOST_ALONE_PITS && tally[pit] != pit) {
            pit++;
        }
        if (tally[pit] != pit) {
            return false;
        }
        tally[pit] = 0;
        for (int i = 1; i < pit; i++) {
            tally[i]++;
        }
        return true;
    }

    // ---- which pit it was

    public int heard(int what, int v) {
        if (what < 0 || what >= MOST_TOLD.length || v < 0 || v > MOST_TOLD[what]) {
            return NONE;
        }
        return clues.add(what, v) ? clues.size : NONE;
    }

    public int forget() {
        return clues.clear();
    }

    public int fits() {
        int fitting = fittingPits();
        numbers.tell(Integer.bitCount(fitting));
        return fitting;
    }

    private int fittingPits() {
        int fitting = (1 << now.pits()) - 1;
        for (int i = 0; i < clues.size; i++) {
            fitting &= pitsOfClue(clues.first[i], clues.second[i]);
        }
        return fitting;
    }

    private int pitsOfClue(int what, int v) {
        int pits = 0;
        for (int pit = 0; pit < now.pits(); pit++) {
            if (isSo(pit, what, v)) {
                pits |= 1 << pit;
            }
        }
        return pits;
    }

    private boolean isSo(int pit, int what, int v) {
        int side = now.isOf(pit, 0) ? 0 : 1;
        switch (what) {
            case 0:
                return side == v;
            case 1:
                return now.seeds[pit] >= v;
            case 2:
                return now.seeds[now.opposite(pit)] >= v;
            case 3:
                return pit - side * now.columns == v;
            default:
                return (side == now.turn) == (v == 1);
        }
    }

    public int asks() {
        int fitting = fittingPits();
        if (fitting == 0) {
            return NOTHING;
        }
        int fewest = now.pits() + 1;
        int question = 0;
        for (int what = 0; what < MOST_TOLD.length; what++) {
            for (int v = 0; v <= MOST_TOLD[what]; v++) {
                int so = pitsOfClue(what, v);
                int left = Math.max(Integer.bitCount(fitting & so), Integer.bitCount(fitting & ~so));
                if (left < fewest) {
                    fewest = left;
                    question = 10 * what + v;
                }
            }
        }
        numbers.tell(fewest);
        return question;
    }

    // ---- which laws they are

    public int saw(int p, int place) {
        boolean isPlace = place >= 0 && place < MOST_PITS || place == STORE;
        if (p < 0 || p >= MOST_COLUMNS || !isPlace) {
            return NONE;
        }
        return sights.add(p, place) ? sights.size : NONE;
    }

    public int denies() {
        return sights.clear();
    }

    public int guess() {
        long left = setsLeft();
        numbers.clear();
        if (left == 0) {
            return 0;
        }
        int common = LAW_SETS - 1;
        for (int set = 0; set < LAW_SETS; set++) {
            if ((left >> set & 1) != 0) {
                common &= set;
            }
        }
        numbers.tell(Long.numberOfTrailingZeros(left), common);
        return Long.bitCount(left);
    }

    /** The sets of LAWS, a bit for each, by which all that was seen would be so. */
    private long setsLeft() {
        long left = 0;
        for (int set = 0; set < LAW_SETS; set++) {
            if (explains(set)) {
                left |= 1L << set;
            }
        }
        return left;
    }

    private boolean explains(int set) {
        for (int i = 0; i < sights.size; i++) {
            boolean made = tryMove(sights.first[i], set);
            if (!made || move.place != sights.second[i]) {
                return false;
            }
        }
        return true;
    }

    public int tries() {
        long left = setsLeft();
        if (left == 0 || now.isOver()) {
            return NOTHING;
        }
        int fewest = LAW_SETS + 1;
        int chosen = 0;
        for (int p = 0; p < now.columns; p++) {
            if (now.canMove(p)) {
                int most = mostLeftBy(p, left);
                chosen = most < fewest ? p : chosen;
                fewest = Math.min(most, fewest);
            }
        }
        numbers.tell(fewest);
        return chosen;
    }

    private int mostLeftBy(int p, long left) {
        clearTally();
        int most = 0;
        for (int set = 0; set < LAW_SETS; set++) {
            if ((left >> set & 1) != 0 && tryMove(p, set)) {
                int place = Math.min(move.place, MOST_PITS);
                tally[place]++;
                most = Math.max(most, tally[place]);
            }
        }
        return most;
    }

    // ---- bids, rules, years

    public int bids(int v) {
        if (v < 0 || v > MOST_VALUE) {
            return NONE;
        }
        int found = 0;
        numbers.clear();
        for (int x = 0; x <= MOST_BID; x++) {
            for (int y = 0; y <= MOST_BID; y++) {
                if (isContent(x, y, v) && isContent(y, x, v)) {
                    if (found == 0) {
                        numbers.tell(x, y);
                    }
                    found++;
                }
            }
        }
        return found;
    }

    private static boolean isContent(int mine, int theirs, int v) {
        int has = profit(mine, theirs, v);
        for (int bid = 0; bid <= MOST_BID; bid++) {
            if (profit(bid, theirs, v) > has) {
                return false;
            }
        }
        return true;
    }

    private static int profit(int mine, int theirs, int v) {
        if (mine == theirs) {
            return v / 3 - 1;
        }
        return mine > theirs ? v - mine : mine / 2;
    }

    public int other() {
        int wrong = reader.read(text);
        text.clear();
        if (wrong != FINE) {
            return -1 - wrong;
        }
        int byIt = leadBy(reader.rule);
        int asItIs = leadBy(theRule);
        numbers.tell(MIDDLE + byIt, MIDDLE + asItIs);
        return 2 * MIDDLE + byIt - asItIs;
    }

    private int leadBy(Rule ofSideZero) {
        ahead.take(now);
        for (int i = 0; i < OTHER_MOVES; i++) {
            player.play(ahead, ahead.turn == 0 ? ofSideZero : theRule, lawSet);
        }
        return ahead.stores[0] - ahead.stores[1];
    }

    public int years(int seed, int n) {
        if (n < 1 || n > MOST_AHEAD) {
            return NONE;
        }
        ahead.take(now);
        int drawn = seed;
        int made = 0;
        while (made < n && !ahead.isOver()) {
            drawn = drawAgain(drawn);
            if (draw(drawn, 3) == 2) {
                player.play(ahead, theRule, lawSet);
            } else {
                drawn = drawAgain(drawn);
                move.make(ahead, ahead.fullPit(draw(drawn, ahead.fullPits())), lawSet);
            }
            made++;
        }
        numbers.tell(made, ahead.turn);
        return MIDDLE + ahead.stores[0] - ahead.stores[1];
    }

    private static int drawAgain(int drawn) {
        return drawn * 1103515245 + 12345;
    }

    private static int draw(int drawn, int n) {
        return n > 0 ? (drawn >>> 16) % n : 0;
    }

    // ---- kept

    public boolean keep(int i) {
        if (i < 0 || i >= MOST_KEPT) {
            return false;
        }
        kept[i].take(now);
        isKept[i] = true;
        return true;
    }

    public boolean again(int i) {
        if (i < 0 || i >= MOST_KEPT || !isKept[i]) {
            return false;
        }
        now.take(kept[i]);
        history.clear();
        return true;
    }

    public int count(int what) {
        switch (what) {
            case 0:
                return now.columns;
            case 1:
                return now.turn;
            case 2:
                return now.made;
            case 3:
                return now.inPits();
            case 4:
                return now.isOver() ? 1 : 0;
            case 5:
                return lawSet;
            case 6:
                return clues.size;
            case 7:
                return sights.size;
            case 8:
                return history.size;
            case 9:
                return numbers.size;
            case 10:
                return text.length;
            default:
                return NONE;
        }
    }

    public long row(int i) throws NoSuchElementException {
        if (i < 0 || i >= numbers.size) {
            throw new NoSuchElementException("no such number");
        }
        return numbers.told[i];
    }

    /** SEEDS of all PITS and STORES, TURN and MOVES: all that undo() brings back. */
    private static final class Position {
        private final int[] seeds = new int[MOST_PITS];
        private final int[] stores = new int[2];
        private int columns = 3;
        private int turn;
        private int made;

        private void take(Position from) {
            System.arraycopy(from.seeds, 0, seeds, 0, MOST_PITS);
            stores[0] = from.stores[0];
            stores[1] = from.stores[1];
            columns = from.columns;
            turn = from.turn;
            made = from.made;
        }

        private int pits() {
            return 2 * columns;
        }

        private boolean hasPit(int pit) {
            return pit >= 0 && pit < 2 * columns;
        }

        private boolean isOf(int pit, int side) {
            return pit >= side * columns && pit < (side + 1) * columns;
        }

        private int opposite(int pit) {
            return 2 * columns - 1 - pit;
        }

        private int inPitsOf(int side) {
            int sum = 0;
            int first = side * columns;
            for (int p = 0; p < columns; p++) {
                sum += seeds[first + p];
            }
            return sum;
        }

        private int inPits() {
            return inPitsOf(0) + inPitsOf(1);
        }

        private int inAll() {
            return ownedBy(0) + ownedBy(1);
        }

        private int ownedBy(int side) {
            return stores[side] + inPitsOf(side);
        }

        private int emptyPitsOf(int side) {
            int empty = 0;
            int first = side * columns;
            for (int p = 0; p < columns; p++) {
                if (seeds[first + p] == 0) {
                    empty++;
                }
            }
            return empty;
        }

        /** How many PITS of THE MOVER can make a MOVE. */
        private int fullPits() {
            return columns - emptyPitsOf(turn);
        }

        /** The PIT p that has n PITS that can make a MOVE ahead of it, and can itself. */
        private int fullPit(int n) {
            int left = n;
            for (int p = 0; p < columns; p++) {
                if (canMove(p)) {
                    if (left == 0) {
                        return p;
                    }
                    left--;
                }
            }
            return NONE;
        }

        private boolean isOver() {
            return inPitsOf(turn) == 0;
        }

        private boolean canMove(int p) {
            return p >= 0 && p < columns && seeds[turn * columns + p] > 0;
        }

        private void pass() {
            turn = 1 - turn;
        }
    }

    /** A MOVE as it is made, and what it did. */
    private static final class Move {
        private int laws;
        private int side;
        private int p;
        private int lifted;
        private int gain;
        private int laps;
        private int place;
        private boolean stays;
        private int empty;
        private int others;

        /** False, and nothing changes, if there is no such MOVE. */
        private boolean make(Position board, int byPit, int byLaws) {
            if (!board.canMove(byPit)) {
                return false;
            }
            laws = byLaws;
            side = board.turn;
            p = byPit;
            place = side * board.columns + p;
            lifted = board.seeds[place];
            int had = board.stores[side];
            laps = 0;
            boolean goesOn = true;
            for (int lap = 0; lap < MOST_LAPS && goesOn; lap++) {
                goesOn = sowLap(board, place) && obeys(LAW_R);
                laps++;
            }
            if (obeys(LAW_C)) {
                captureOpposite(board);
            }
            if (obeys(LAW_T)) {
                captureBackwards(board);
            }
            gain = board.stores[side] - had;
            endTurn(board);
            return true;
        }

        private boolean obeys(int law) {
            return (laws & law) != 0;
        }

        /** True, if the last SEED fell in a PIT that had SEEDS. */
        private boolean sowLap(Position board, int from) {
            int inHand = board.seeds[from];
            board.seeds[from] = 0;
            int leftOut = obeys(LAW_K) ? from : NONE;
            boolean hadSeeds = false;
            for (int i = 0; i < inHand; i++) {
                place = placeBehind(place, board.columns);
                if (place == leftOut) {
                    place = placeBehind(place, board.columns);
                }
                if (place == STORE) {
                    board.stores[side]++;
                    hadSeeds = false;
                } else {
                    hadSeeds = board.seeds[place] > 0;
                    board.seeds[place]++;
                }
            }
            return hadSeeds;
        }

        private int placeBehind(int at, int columns) {
            int last = columns * (side + 1) - 1;
            if (at == last && (laws & LAW_S) != 0) {
                return STORE;
            }
            int next = at == STORE ? last + 1 : at + 1;
            return next < 2 * columns ? next : 0;
        }

        private void captureOpposite(Position board) {
            if (!board.isOf(place, side) || board.seeds[place] != 1) {
                return;
            }
            int facing = board.opposite(place);
            if (board.seeds[facing] > 0) {
                board.stores[side] += 1 + board.seeds[facing];
                board.seeds[place] = 0;
                board.seeds[facing] = 0;
            }
        }

        private void captureBackwards(Position board) {
            if (!board.isOf(place, 1 - side)) {
                return;
            }
            int first = (1 - side) * board.columns;
            for (int pit = place; pit >= first; pit--) {
                int taken = board.seeds[pit];
                if (taken != 2 && taken != 3) {
                    return;
                }
                board.stores[side] += taken;
                board.seeds[pit] = 0;
            }
        }

        private void endTurn(Position board) {
            stays = place == STORE && obeys(LAW_X);
            if (!stays) {
                board.pass();
            }
            board.made++;
            empty = board.emptyPitsOf(side);
            others = board.inPitsOf(1 - side);
        }
    }

    /** How good a MOVE is: things, and each sign behind the things that it binds. */
    private static final class Rule {
        private static final int MOST_SIGNS = 40;
        // The - ahead of a thing: no sign of THE TEXT, those are 0 to 255.
        private static final int OPPOSITE = 256;
        private static final String THINGS = "tapnleo";

        // NUMBERS as they are, all else as its sign below 0.
        private final int[] code = new int[MOST_SIGNS];
        private final int[] values = new int[MOST_SIGNS];
        private int size;

        private void becomesThing(int letter) {
            size = 0;
            put(-letter);
        }

        private void take(Rule from) {
            size = from.size;
            System.arraycopy(from.code, 0, code, 0, MOST_SIGNS);
        }

        private void put(int piece) {
            if (size < MOST_SIGNS) {
                code[size] = piece;
                size++;
            }
        }

        private void addDigit(int digit) {
            if (size > 0) {
                code[size - 1] = code[size - 1] * 10 + digit;
            }
        }

        private int judge(Move move) {
            if (size == 0) {
                return move.gain * 3 + (move.stays ? 2 : 0);
            }
            int top = 0;
            for (int i = 0; i < size; i++) {
                int piece = code[i];
                if (piece == -OPPOSITE) {
                    if (top > 0) {
                        values[top - 1] = -values[top - 1];
                    }
                } else if (piece >= 0 || isThing(-piece)) {
                    values[top] = piece >= 0 ? piece : thing(-piece, move);
                    top++;
                } else if (top > 1) {
                    top--;
                    values[top - 1] = bind(-piece, values[top - 1], values[top]);
                }
            }
            return values[0];
        }

        private static boolean isThing(int sign) {
            return THINGS.indexOf((char) sign) >= 0;
        }

        private static int thing(int letter, Move move) {
            switch (letter) {
                case 't':
                    return move.gain;
                case 'a':
                    return move.stays ? 1 : 0;
                case 'p':
                    return move.p;
                case 'n':
                    return move.lifted;
                case 'l':
                    return move.laps;
                case 'e':
                    return move.empty;
                default:
                    return move.others;
            }
        }

        private static int bind(int sign, int left, int right) {
            switch (sign) {
                case '<':
                    return left < right ? 1 : 0;
                case '>':
                    return left > right ? 1 : 0;
                case '=':
                    return left == right ? 1 : 0;
                case '+':
                    return left + right;
                case '-':
                    return left - right;
                case '*':
                    return left * right;
                default:
                    return right == 0 ? 0 : left / right;
            }
        }
    }

    /** Reads THE TEXT as a RULE, sign by sign. */
    private static final class RuleReader {
        private static final int MOST_DEEP = 4;
        private static final int MOST_DIGITS = 3;

        private final int[] waiting = new int[Rule.MOST_SIGNS];
        private final boolean[] compared = new boolean[MOST_DEEP + 1];
        private final Rule rule = new Rule();
        private int waits;
        private int deep;
        private int digits;
        private boolean wantsThing;

        /** The place of the sign that can't stand there, or FINE. */
        private int read(Signs text) {
            rule.size = 0;
            waits = 0;
            deep = 0;
            digits = 0;
            compared[0] = false;
            wantsThing = true;
            for (int i = 0; i < text.length; i++) {
                if (i == Rule.MOST_SIGNS || !accept(text.at(i))) {
                    return i;
                }
            }
            if (text.length > 0 && (wantsThing || deep > 0)) {
                return text.length;
            }
            bindWaiting(1);
            return FINE;
        }

        private boolean accept(int sign) {
            if (sign >= '0' && sign <= '9') {
                return acceptDigit(sign - '0');
            }
            digits = 0;
            return wantsThing ? acceptAhead(sign) : acceptBehind(sign);
        }

        private boolean acceptDigit(int digit) {
            if (wantsThing) {
                rule.put(digit);
                digits = 1;
                wantsThing = false;
                return true;
            }
            if (digits == 0 || digits == MOST_DIGITS) {
                return false;
            }
            rule.addDigit(digit);
            digits++;
            return true;
        }

        private boolean acceptAhead(int sign) {
            if (sign == '-') {
                await(Rule.OPPOSITE);
                return true;
            }
            if (sign == '(' && deep < MOST_DEEP) {
                await(sign);
                deep++;
                compared[deep] = false;
                return true;
            }
            if (!Rule.isThing(sign)) {
                return false;
            }
            rule.put(-sign);
            wantsThing = false;
            return true;
        }

        private boolean acceptBehind(int sign) {
            if (sign == ')' && deep > 0) {
                bindWaiting(1);
                dropOpening();
                deep--;
                return true;
            }
            int strength = strength(sign);
            if (strength == 0 || strength == 1 && compared[deep]) {
                return false;
            }
            if (strength == 1) {
                compared[deep] = true;
            }
            bindWaiting(strength);
            await(sign);
            wantsThing = true;
            return true;
        }

        private void dropOpening() {
            if (waits > 0) {
                waits--;
            }
        }

        private void await(int sign) {
            if (waits < waiting.length) {
                waiting[waits] = sign;
                waits++;
            }
        }

        /** Signs that wait and bind as much or more have both their things now. */
        private void bindWaiting(int strength) {
            for (; waits > 0 && strength(waiting[waits - 1]) >= strength; waits--) {
                rule.put(-waiting[waits - 1]);
            }
        }

        private static int strength(int sign) {
            switch (sign) {
                case '<':
                case '>':
                case '=':
                    return 1;
                case '+':
                case '-':
                    return 2;
                case '*':
                case '/':
                    return 3;
                case Rule.OPPOSITE:
                    return 4;
                default:
                    return 0;
            }
        }
    }

    /** Finds the MOVE that is the greatest by a RULE. */
    private static final class Player {
        private final Position trial = new Position();
        private final Move move = new Move();
        private int value;

        /** The PIT p, or NONE; value is how good it is (0 for NONE). */
        private int choose(Position board, Rule rule, int laws) {
            int chosen = NONE;
            value = 0;
            for (int p = 0; p < board.columns; p++) {
                trial.take(board);
                if (move.make(trial, p, laws)) {
                    int worth = rule.judge(move);
                    if (chosen == NONE || worth > value) {
                        chosen = p;
                        value = worth;
                    }
                }
            }
            return chosen;
        }

        /** False, and nothing changes, if it is OVER. */
        private boolean play(Position board, Rule rule, int laws) {
            return move.make(board, choose(board, rule, laws), laws);
        }
    }

    /** THE TEXT. */
    private static final class Signs {
        private static final int MOST_SIGNS = 80;

        private final int[] signs = new int[MOST_SIGNS];
        private int length;

        private boolean addFour(int v) {
            if (length + 4 > MOST_SIGNS) {
                return false;
            }
            for (int shift = 24; shift >= 0; shift -= 8) {
                signs[length] = v >>> shift & 255;
                length++;
            }
            return true;
        }

        private boolean cut(int n) {
            if (n < 0 || n > length) {
                return false;
            }
            length = n;
            return true;
        }

        private void clear() {
            length = 0;
        }

        private int at(int i) {
            return i >= 0 && i < length ? signs[i] : 0;
        }

        /** Below 0, if there is no digit at i. */
        private int digitAt(int i) {
            int sign = at(i);
            return sign >= '0' && sign <= '9' ? sign - '0' : -1;
        }
    }

    /** The ROW. */
    private static final class Numbers {
        private final long[] told = new long[MOST_ALONE_PITS];
        private int size;

        private void clear() {
            size = 0;
        }

        private void add(long number) {
            if (size < told.length) {
                told[size] = number;
                size++;
            }
        }

        private void tell(long first) {
            clear();
            add(first);
        }

        private void tell(long first, long second) {
            tell(first);
            add(second);
        }

        private void tell(long first, long second, long third) {
            tell(first, second);
            add(third);
        }
    }

    /** What can be undone: the positions ahead of it, the oldest one given up for a new one. */
    private static final class History {
        private static final int MOST = 12;

        private final Position[] positions = new Position[MOST];
        private int next;
        private int size;

        private History() {
            for (int i = 0; i < MOST; i++) {
                positions[i] = new Position();
            }
        }

        private void push(Position position) {
            positions[next].take(position);
            next = next + 1 < MOST ? next + 1 : 0;
            size = Math.min(size + 1, MOST);
        }

        private boolean pop(Position into) {
            if (size == 0) {
                return false;
            }
            next = next > 0 ? next - 1 : MOST - 1;
            size--;
            into.take(positions[next]);
            return true;
        }

        private void clear() {
            size = 0;
        }
    }

    /** The rows of MOVES behind a position, with the position behind each MOVE of one row. */
    private static final class Tree {
        // Four TURNS of 1 to 6 PITS, each as likely, divide it.
        private static final long WHOLE = 60L * 60 * 60 * 60;

        private final Position[] at = new Position[MOST_IN_A_TURN + 1];
        private final int[] path = new int[MOST_IN_A_TURN];
        private final int[][] line = new int[MOST_LOOKED_AHEAD + 1][MOST_LOOKED_AHEAD];
        private final int[] lineSize = new int[MOST_LOOKED_AHEAD + 1];
        private final Move move = new Move();
        private int depth;
        private int most;
        private int laws;
        private boolean oneTurn;

        private Tree() {
            for (int i = 0; i < at.length; i++) {
                at[i] = new Position();
            }
        }

        private void start(Position from, int mostMoves, boolean inOneTurn, int byLaws) {
            at[0].take(from);
            depth = 0;
            most = Math.min(mostMoves, MOST_IN_A_TURN);
            oneTurn = inOneTurn;
            laws = byLaws;
        }

        private Position here() {
            return at[depth];
        }

        /** To the next row, from the least one on, each ahead of those that go on from it. */
        private boolean step() {
            boolean ended = oneTurn && here().turn != at[0].turn;
            if (depth < most && !ended && enter(0)) {
                return true;
            }
            while (depth > 0) {
                depth--;
                if (enter(path[depth] + 1)) {
                    return true;
                }
            }
            return false;
        }

        private boolean enter(int fromPit) {
            Position here = at[depth];
            for (int p = fromPit; p < here.columns; p++) {
                if (here.canMove(p)) {
                    at[depth + 1].take(here);
                    move.make(at[depth + 1], p, laws);
                    path[depth] = p;
                    depth++;
                    return true;
                }
            }
            return false;
        }

        private boolean isAtEnd() {
            return depth == most || here().isOver();
        }

        /** The part of WHOLE that is as likely as the row. */
        private long share() {
            long share = WHOLE;
            for (int i = 0; i < depth; i++) {
                share /= Math.max(1, at[i].fullPits());
            }
            return share;
        }

        private void tellPath(Numbers numbers) {
            numbers.clear();
            for (int i = 0; i < depth; i++) {
                numbers.add(path[i]);
            }
        }

        /** How far THE MOVER's STORE is ahead, if both play best for so many MOVES. */
        private int duel(Position from, int mostMoves, int byLaws) {
            start(from, Math.min(mostMoves, MOST_LOOKED_AHEAD), false, byLaws);
            int ofSideZero = leadBehind(this, 0);
            return from.turn == 0 ? ofSideZero : -ofSideZero;
        }

        private void tellDuel(Numbers numbers) {
            numbers.clear();
            for (int i = 0; i < lineSize[0]; i++) {
                numbers.add(line[0][i]);
            }
        }

        /** How far the STORE of side 0 is ahead, if both play best from this depth on. */
        private static int leadBehind(Tree tree, int depth) {
            Position here = tree.at[depth];
            tree.lineSize[depth] = 0;
            if (depth >= tree.most || here.isOver()) {
                return here.stores[0] - here.stores[1];
            }
            int bestLead = 0;
            for (int p = 0; p < here.columns; p++) {
                Position next = tree.at[depth + 1];
                next.take(here);
                if (tree.move.make(next, p, tree.laws)) {
                    int lead = leadBehind(tree, depth + 1);
                    boolean better = here.turn == 0 ? lead > bestLead : lead < bestLead;
                    if (better || tree.lineSize[depth] == 0) {
                        bestLead = lead;
                        tree.putAhead(p, depth);
                    }
                }
            }
            return bestLead;
        }

        /** The best line from this depth on is the MOVE and the best line behind it. */
        private void putAhead(int p, int atDepth) {
            int behind = lineSize[atDepth + 1];
            line[atDepth][0] = p;
            System.arraycopy(line[atDepth + 1], 0, line[atDepth], 1, behind);
            lineSize[atDepth] = behind + 1;
        }
    }

    /** Positions without their MOVES, in the order in which they were put there. */
    private static final class Shelf {
        private static final int MOST = MOST_COLUMNS * MOST_COLUMNS * MOST_COLUMNS;
        private static final int WIDTH = MOST_PITS + 3;

        private final int[] cells = new int[MOST * WIDTH];
        private int size;

        private void clear() {
            size = 0;
        }

        private void putNew(Position position) {
            if (find(position) < 0) {
                put(position);
            }
        }

        private void put(Position position) {
            if (size < MOST) {
                int start = size * WIDTH;
                System.arraycopy(position.seeds, 0, cells, start, MOST_PITS);
                cells[start + MOST_PITS] = position.stores[0];
                cells[start + MOST_PITS + 1] = position.stores[1];
                cells[start + MOST_PITS + 2] = position.turn;
                size++;
            }
        }

        private int find(Position position) {
            for (int i = 0; i < size; i++) {
                if (isAt(i, position)) {
                    return i;
                }
            }
            return -1;
        }

        private boolean isAt(int i, Position position) {
            int start = i * WIDTH;
            for (int pit = 0; pit < MOST_PITS; pit++) {
                if (cells[start + pit] != position.seeds[pit]) {
                    return false;
                }
            }
            return cells[start + MOST_PITS] == position.stores[0]
                && cells[start + MOST_PITS + 1] == position.stores[1]
                && cells[start + MOST_PITS + 2] == position.turn;
        }
    }

    /** Pairs of numbers that were told, up to a limit. */
    private static final class Notes {
        private final int[] first = new int[MOST_HEARD];
        private final int[] second = new int[MOST_HEARD];
        private final int most;
        private int size;

        private Notes(int mostPairs) {
            most = Math.min(mostPairs, MOST_HEARD);
        }

        private boolean add(int one, int two) {
            if (size >= most) {
                return false;
            }
            first[size] = one;
            second[size] = two;
            size++;
            return true;
        }

        private int clear() {
            int had = size;
            size = 0;
            return had;
        }
    }
}
