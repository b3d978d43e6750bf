import java.util.ArrayList;
import java.util.HashMap;
import java.util.HashSet;
import java.util.List;
import java.util.Map;
import java.util.NoSuchElementException;
import java.util.Set;

/** The document once more, written as it reads and with no thought of speed, to compare SowingBoards with. */
final class Naive {
    /** SEEDS of PITS, then of both STORES; TURN; MOVES. */
    record State(int columns, List<Integer> cells, int turn, int made) {
        int seeds(int pit) {
            return cells.get(pit);
        }

        int stored(int side) {
            return cells.get(2 * columns + side);
        }

        List<Integer> pitsOf(int side) {
            return cells.subList(side * columns, side * columns + columns);
        }

        int sum(int side) {
            return pitsOf(side).stream().mapToInt(Integer::intValue).sum();
        }

        int all() {
            return sum(0) + sum(1);
        }

        boolean over() {
            return sum(turn) == 0;
        }

        List<Integer> full() {
            List<Integer> full = new ArrayList<>();
            for (int p = 0; p < columns; p++) {
                if (pitsOf(turn).get(p) > 0) {
                    full.add(p);
                }
            }
            return full;
        }

        State passed() {
            return new State(columns, cells, 1 - turn, made);
        }

        /** As reach() tells positions apart. */
        String position() {
            return cells + " " + turn;
        }
    }

    record Done(State then, int gain, int laps, int place, boolean stays, Map<Character, Integer> things) {
    }

    record Line(int lead, List<Integer> ps) {
    }

    private State now = new State(3, List.of(3, 3, 3, 3, 3, 3, 0, 0), 0, 0);
    private String lawLetters = "scx";
    private String theRule = "";
    private String text = "";
    private List<Long> told = new ArrayList<>();
    private final List<State> undos = new ArrayList<>();
    private final State[] kept = new State[2];
    private final List<int[]> heardThings = new ArrayList<>();
    private final List<int[]> seenThings = new ArrayList<>();

    private void tell(long... numbers) {
        told = new ArrayList<>();
        for (long number : numbers) {
            told.add(number);
        }
    }

    private void tellAll(List<Integer> numbers) {
        told = new ArrayList<>();
        for (int number : numbers) {
            told.add((long) number);
        }
    }

    private String readText() {
        String was = text;
        text = "";
        return was;
    }

    // ---- the MOVE

    private static Done made(State from, int p, String laws) {
        int c = from.columns();
        int side = from.turn();
        List<Integer> cells = new ArrayList<>(from.cells());
        int storeCell = 2 * c + side;
        // The cells in the order in which they are sown.
        List<Integer> ring = new ArrayList<>();
        for (int pit = 0; pit < 2 * c; pit++) {
            ring.add(pit);
            if (laws.contains("s") && pit == (side == 0 ? c - 1 : 2 * c - 1)) {
                ring.add(storeCell);
            }
        }
        int lift = side * c + p;
        int seedsOfPit = cells.get(lift);
        int laps = 0;
        int last;
        while (true) {
            int hand = cells.set(lift, 0);
            int at = ring.indexOf(lift);
            boolean had = false;
            while (hand > 0) {
                at = (at + 1) % ring.size();
                int cell = ring.get(at);
                if (cell == lift && laws.contains("k")) {
                    continue;
                }
                had = cells.get(cell) > 0;
                cells.set(cell, cells.get(cell) + 1);
                hand--;
            }
            last = ring.get(at);
            laps++;
            if (!laws.contains("r") || last == storeCell || !had || laps == 50) {
                break;
            }
            lift = last;
        }
        boolean mine = last < 2 * c && last / c == side;
        boolean theirs = last < 2 * c && last / c != side;
        int facing = 2 * c - 1 - last;
        if (laws.contains("c") && mine && cells.get(last) == 1 && cells.get(facing) != 0) {
            cells.set(storeCell, cells.get(storeCell) + 1 + cells.get(facing));
            cells.set(last, 0);
            cells.set(facing, 0);
        }
        if (laws.contains("t") && theirs) {
            int pit = last;
            while (pit >= 0 && pit / c != side && (cells.get(pit) == 2 || cells.get(pit) == 3)) {
                cells.set(storeCell, cells.get(storeCell) + cells.set(pit, 0));
                pit--;
            }
        }
        boolean stays = laws.contains("x") && last == storeCell;
        State then = new State(c, cells, stays ? side : 1 - side, from.made() + 1);
        Map<Character, Integer> things = new HashMap<>();
        int gain = then.stored(side) - from.stored(side);
        things.put('t', gain);
        things.put('a', stays ? 1 : 0);
        things.put('p', p);
        things.put('n', seedsOfPit);
        things.put('l', laps);
        things.put('e', (int) then.pitsOf(side).stream().filter(seeds -> seeds == 0).count());
        things.put('o', then.sum(1 - side));
        return new Done(then, gain, laps, last == storeCell ? 50 : last, stays, things);
    }

    // ---- THE RULE

    /** Evaluates, or throws IllegalArgumentException where the text is no EXPRESSION. */
    private static final class Expression {
        private final String signs;
        private final Map<Character, Integer> things;
        private int at;

        Expression(String signs, Map<Character, Integer> things) {
            this.signs = signs;
            this.things = things;
        }

        int whole() {
            int value = compared(0);
            if (at != signs.length()) {
                throw new IllegalArgumentException();
            }
            return value;
        }

        private char next() {
            return at < signs.length() ? signs.charAt(at) : '\0';
        }

        private int compared(int deep) {
            int left = sum(deep);
            char sign = next();
            if (sign != '<' && sign != '>' && sign != '=') {
                return left;
            }
            at++;
            int right = sum(deep);
            boolean so = sign == '<' ? left < right : sign == '>' ? left > right : left == right;
            return so ? 1 : 0;
        }

        private int sum(int deep) {
            int value = product(deep);
            while (next() == '+' || next() == '-') {
                boolean more = signs.charAt(at++) == '+';
                int right = product(deep);
                value = more ? value + right : value - right;
            }
            return value;
        }

        private int product(int deep) {
            int value = thing(deep);
            while (next() == '*' || next() == '/') {
                boolean times = signs.charAt(at++) == '*';
                int right = thing(deep);
                value = times ? value * right : right == 0 ? 0 : value / right;
            }
            return value;
        }

        private int thing(int deep) {
            char sign = next();
            if (sign == '-') {
                at++;
                return -thing(deep);
            }
            if (sign == '(') {
                at++;
                if (deep == 4) {
                    throw new IllegalArgumentException();
                }
                int value = compared(deep + 1);
                if (next() != ')') {
                    throw new IllegalArgumentException();
                }
                at++;
                return value;
            }
            if (sign >= '0' && sign <= '9') {
                int from = at;
                while (next() >= '0' && next() <= '9' && at - from < 3) {
                    at++;
                }
                return Integer.parseInt(signs.substring(from, at));
            }
            if ("tapnleo".indexOf(sign) < 0) {
                throw new IllegalArgumentException();
            }
            at++;
            return things == null ? 1 : things.get(sign);
        }
    }

    private static boolean isExpression(String signs) {
        try {
            new Expression(signs, null).whole();
            return true;
        } catch (IllegalArgumentException e) {
            return false;
        }
    }

    /** Some EXPRESSION begins so. */
    private static boolean canGoOn(String signs) {
        for (String more : new String[] {"", "1"}) {
            for (int deep = 0; deep <= 4; deep++) {
                if (isExpression(signs + more + "))))".substring(0, deep))) {
                    return true;
                }
            }
        }
        return false;
    }

    /** The place of the wrong sign, or -1. */
    private static int wrongInRule(String signs) {
        if (signs.isEmpty()) {
            return -1;
        }
        for (int i = 0; i < Math.min(40, signs.length()); i++) {
            if (!canGoOn(signs.substring(0, i + 1))) {
                return i;
            }
        }
        if (signs.length() > 40) {
            return 40;
        }
        return isExpression(signs) ? -1 : signs.length();
    }

    private static int value(String rule, Done done) {
        return new Expression(rule.isEmpty() ? "t*3+a*2" : rule, done.things()).whole();
    }

    private int bestBy(String rule, State at) {
        int best = -1;
        for (int p : at.full()) {
            if (best < 0 || value(rule, made(at, p, lawLetters)) > value(rule, made(at, best, lawLetters))) {
                best = p;
            }
        }
        return best;
    }

    private State played(State from, int n) {
        State at = from;
        for (int i = 0; i < n && !at.over(); i++) {
            at = made(at, bestBy(theRule, at), lawLetters).then();
        }
        return at;
    }

    // ---- boards, laws

    int sign(int v) {
        if (text.length() + 4 > 80) {
            return -1;
        }
        StringBuilder more = new StringBuilder(text);
        more.append((char) (v >> 24 & 0xFF)).append((char) (v >> 16 & 0xFF));
        more.append((char) (v >> 8 & 0xFF)).append((char) (v & 0xFF));
        text = more.toString();
        return text.length();
    }

    boolean end(int n) {
        if (n < 0 || n > text.length()) {
            return false;
        }
        text = text.substring(0, n);
        return true;
    }

    int board() {
        String signs = readText();
        if (signs.isEmpty() || signs.charAt(0) < '2' || signs.charAt(0) > '6') {
            return -1;
        }
        int c = signs.charAt(0) - '0';
        List<Integer> cells = new ArrayList<>();
        for (int i = 1; i <= 2 * c; i++) {
            if (i >= signs.length() || signs.charAt(i) < '0' || signs.charAt(i) > '9') {
                return -1 - i;
            }
            cells.add(signs.charAt(i) - '0');
        }
        if (signs.length() > 1 + 2 * c) {
            return -1 - (1 + 2 * c);
        }
        cells.add(0);
        cells.add(0);
        now = new State(c, cells, 0, 0);
        undos.clear();
        kept[0] = null;
        kept[1] = null;
        return now.all();
    }

    int laws() {
        String signs = readText();
        for (int i = 0; i < signs.length(); i++) {
            boolean letter = "srckxt".indexOf(signs.charAt(i)) >= 0;
            if (!letter || signs.substring(0, i).indexOf(signs.charAt(i)) >= 0) {
                return -1 - i;
            }
        }
        lawLetters = signs;
        return signs.length();
    }

    int rule() {
        String signs = readText();
        int wrong = wrongInRule(signs);
        if (wrong >= 0) {
            return -1 - wrong;
        }
        theRule = signs;
        return 0;
    }

    int pit(int pit) {
        if (pit < 0 || pit >= 2 * now.columns()) {
            throw new NoSuchElementException();
        }
        return now.seeds(pit);
    }

    int store(int side) {
        if (side < 0 || side > 1) {
            throw new NoSuchElementException();
        }
        return now.stored(side);
    }

    int sheet(int kind, int n, int f, int step) {
        if (kind < 0 || kind > 3 || n > 12) {
            return -1;
        }
        if (kind < 3 && n < 0) {
            return -2;
        }
        List<Integer> cells = new ArrayList<>(now.cells());
        for (int pit = 0; pit < 2 * now.columns(); pit++) {
            int entry = 0;
            if (kind < 3 && pit < n) {
                entry = f;
                for (int i = 0; i < pit; i++) {
                    entry += step;
                }
                if (kind == 0) {
                    entry = entry << 24 >> 24;
                } else if (kind == 1) {
                    entry = entry << 16 >> 16;
                }
                entry = entry < 0 ? 0 : entry > 9 ? 9 : entry;
            }
            cells.set(pit, entry);
        }
        now = new State(now.columns(), cells, now.turn(), now.made());
        return kind == 3 ? -3 : now.all();
    }

    // ---- moves

    private void push(State state) {
        undos.add(state);
        if (undos.size() > 12) {
            undos.remove(0);
        }
    }

    private int asked(int p) {
        if (p < 0 || p >= now.columns()) {
            return -1;
        }
        return now.pitsOf(now.turn()).get(p) == 0 ? -2 : 0;
    }

    int moves(int p) {
        int asked = asked(p);
        if (asked < 0) {
            return asked;
        }
        push(now);
        Done done = made(now, p, lawLetters);
        now = done.then();
        tell(done.laps(), done.place(), now.turn());
        return done.gain();
    }

    int plays(int n) {
        if (n < 1 || n > 60) {
            return -1;
        }
        if (now.over()) {
            return -2;
        }
        push(now);
        int had = now.made();
        now = played(now, n);
        tell(now.stored(0), now.stored(1));
        return now.made() - had;
    }

    int passes() {
        push(now);
        now = now.passed();
        return now.turn();
    }

    int adds(int pit, int n) {
        if (pit < 0 || pit >= 2 * now.columns() || n < 1 || n > 9) {
            return -1;
        }
        if (now.all() + now.stored(0) + now.stored(1) + n > 200) {
            return -2;
        }
        push(now);
        List<Integer> cells = new ArrayList<>(now.cells());
        cells.set(pit, cells.get(pit) + n);
        now = new State(now.columns(), cells, now.turn(), now.made());
        return now.seeds(pit);
    }

    int game() {
        String signs = readText();
        for (int i = 0; i < signs.length(); i++) {
            if ("012345*/".indexOf(signs.charAt(i)) < 0 || i >= 60) {
                return -1 - i;
            }
        }
        State was = now;
        int done = 0;
        boolean stuck = false;
        for (char act : signs.toCharArray()) {
            if (act == '/') {
                now = now.passed();
            } else {
                int p = act == '*' ? bestBy(theRule, now) : act - '0';
                if (!now.full().contains(p)) {
                    stuck = true;
                    break;
                }
                now = made(now, p, lawLetters).then();
            }
            done++;
        }
        if (done > 0) {
            push(was);
        }
        tell(stuck ? 1 : 0, now.turn());
        return done;
    }

    int undo() {
        if (undos.isEmpty()) {
            return -1;
        }
        now = undos.remove(undos.size() - 1);
        return undos.size();
    }

    // ---- what a move does

    int would(int p) {
        int asked = asked(p);
        if (asked < 0) {
            return asked;
        }
        Done done = made(now, p, lawLetters);
        tell(done.laps(), done.place(), done.then().turn());
        return done.gain();
    }

    int worth(int p) {
        int asked = asked(p);
        if (asked < 0) {
            return asked;
        }
        tell(value(theRule, made(now, p, lawLetters)));
        return 0;
    }

    int best() {
        if (now.over()) {
            return -2;
        }
        int p = bestBy(theRule, now);
        tell(value(theRule, made(now, p, lawLetters)));
        return p;
    }

    /** The most SEEDS by one MOVE and its PIT; none: 0 and -1. */
    private int[] greatest(State at) {
        int[] greatest = {0, -1};
        for (int p : at.full()) {
            int gain = made(at, p, lawLetters).gain();
            if (greatest[1] < 0 || gain > greatest[0]) {
                greatest = new int[] {gain, p};
            }
        }
        return greatest;
    }

    int most() {
        if (now.over()) {
            return -2;
        }
        int[] greatest = greatest(now);
        tell(greatest[1]);
        return greatest[0];
    }

    private static boolean isLess(List<Integer> one, List<Integer> two) {
        for (int i = 0; i < one.size() && i < two.size(); i++) {
            if (!one.get(i).equals(two.get(i))) {
                return one.get(i) < two.get(i);
            }
        }
        return one.size() < two.size();
    }

    private static List<Integer> with(List<Integer> row, int p) {
        List<Integer> longer = new ArrayList<>(row);
        longer.add(p);
        return longer;
    }

    /** All rows of 1 to 6 MOVES in one TURN, each with what came to the STORE. */
    private void turns(State at, List<Integer> row, Map<List<Integer>, Integer> all) {
        for (int p : at.full()) {
            Done done = made(at, p, lawLetters);
            List<Integer> longer = with(row, p);
            all.put(longer, done.then().stored(now.turn()) - now.stored(now.turn()));
            if (done.stays() && longer.size() < 6) {
                turns(done.then(), longer, all);
            }
        }
    }

    private int bestTurn(boolean byLength) {
        if (now.over()) {
            return -2;
        }
        Map<List<Integer>, Integer> all = new HashMap<>();
        turns(now, List.of(), all);
        List<Integer> best = null;
        int most = -1;
        for (Map.Entry<List<Integer>, Integer> turn : all.entrySet()) {
            int size = byLength ? turn.getKey().size() : turn.getValue();
            if (size > most || size == most && isLess(turn.getKey(), best)) {
                best = turn.getKey();
                most = size;
            }
        }
        tellAll(best);
        return most;
    }

    int chain() {
        return bestTurn(false);
    }

    int longest() {
        return bestTurn(true);
    }

    int threat() {
        int[] greatest = greatest(now.passed());
        tell();
        if (greatest[1] >= 0) {
            tell(greatest[1]);
        }
        return greatest[0];
    }

    int risks(int p) {
        int asked = asked(p);
        if (asked < 0) {
            return asked;
        }
        Done done = made(now, p, lawLetters);
        return done.stays() ? 0 : greatest(done.then())[0];
    }

    int starves() {
        int bits = 0;
        int many = 0;
        for (int p : now.full()) {
            if (made(now, p, lawLetters).then().over()) {
                bits += 1 << p;
                many++;
            }
        }
        tell(bits);
        return many;
    }

    // ---- looked ahead

    private Line line(State at, int n, int side) {
        if (n == 0 || at.over()) {
            return new Line(at.stored(side) - at.stored(1 - side), List.of());
        }
        Line best = null;
        for (int p : at.full()) {
            Line behind = line(made(at, p, lawLetters).then(), n - 1, side);
            boolean better = best == null
                || (at.turn() == side ? behind.lead() > best.lead() : behind.lead() < best.lead());
            if (better) {
                List<Integer> ps = new ArrayList<>(List.of(p));
                ps.addAll(behind.ps());
                best = new Line(behind.lead(), ps);
            }
        }
        return best;
    }

    int looks(int n) {
        if (n < 0 || n > 4) {
            return -1;
        }
        Line line = line(now, n, now.turn());
        tellAll(line.ps());
        return 300 + line.lead();
    }

    private void rows(State at, int n, List<Integer> row, Map<List<Integer>, State> all) {
        if (n == 0) {
            all.put(row, at);
            return;
        }
        for (int p : at.full()) {
            rows(made(at, p, lawLetters).then(), n - 1, with(row, p), all);
        }
    }

    int ways(int pit, int n) {
        if (pit < 0 || pit >= 2 * now.columns() || n < 0 || n > 4) {
            return -1;
        }
        Map<List<Integer>, State> all = new HashMap<>();
        rows(now, n, List.of(), all);
        int many = 0;
        List<Integer> least = null;
        for (Map.Entry<List<Integer>, State> row : all.entrySet()) {
            if (row.getValue().seeds(pit) == 0) {
                many++;
                if (least == null || isLess(row.getKey(), least)) {
                    least = row.getKey();
                }
            }
        }
        tellAll(least == null ? List.of() : least);
        return many;
    }

    int reach(int n) {
        if (n < 0 || n > 3) {
            return -1;
        }
        Map<List<Integer>, State> all = new HashMap<>();
        rows(now, n, List.of(), all);
        Set<String> positions = new HashSet<>();
        List<Integer> storesThen = new ArrayList<>();
        for (State state : all.values()) {
            positions.add(state.position());
            storesThen.add(state.stored(now.turn()));
        }
        tell();
        if (!positions.isEmpty()) {
            storesThen.sort(null);
            tell(storesThen.get(0), storesThen.get(storesThen.size() - 1));
        }
        return positions.size();
    }

    private static long divisor(long a, long b) {
        return b == 0 ? a : divisor(b, a % b);
    }

    private static long[] lowest(long upper, long lower) {
        long divisor = divisor(upper, lower);
        return new long[] {upper / divisor, lower / divisor};
    }

    private long[] chance(State at, int n, int g) {
        if (n == 0 || at.over()) {
            return new long[] {at.stored(0) >= g ? 1 : 0, 1};
        }
        long[] sum = {0, 1};
        for (int p : at.full()) {
            long[] one = chance(made(at, p, lawLetters).then(), n - 1, g);
            sum = lowest(sum[0] * one[1] + one[0] * sum[1], sum[1] * one[1]);
        }
        return lowest(sum[0], sum[1] * at.full().size());
    }

    int luck(int n, int g) {
        if (n < 0 || n > 4 || g < 0 || g > 108) {
            return -1;
        }
        tell(chance(now, n, g));
        return 0;
    }

    // ---- by the rule

    int when(int pit) {
        if (pit < 0 || pit >= 2 * now.columns()) {
            return -1;
        }
        for (int n = 0; n <= 60; n++) {
            State at = played(now, n);
            if (at.made() - now.made() < n) {
                return -2;
            }
            if (at.seeds(pit) == 0) {
                tell(at.stored(0), at.stored(1));
                return n;
            }
        }
        return -2;
    }

    int ends() {
        State at = now;
        for (int n = 0; n <= 99; n++) {
            if (at.over()) {
                tell(at.stored(0) + at.sum(0), at.stored(1) + at.sum(1));
                return n;
            }
            at = played(at, 1);
        }
        return -2;
    }

    int round() {
        List<String> positions = new ArrayList<>();
        positions.add(now.position());
        State at = now;
        for (int n = 1; n <= 60; n++) {
            if (at.over()) {
                return -2;
            }
            at = played(at, 1);
            if (positions.contains(at.position())) {
                tell(positions.indexOf(at.position()));
                return n;
            }
            positions.add(at.position());
        }
        return -2;
    }

    int fullest(int n) {
        if (n < 0 || n > 60) {
            return -1;
        }
        State at = played(now, n);
        List<Integer> pits = at.cells().subList(0, 2 * at.columns());
        int most = pits.stream().mapToInt(Integer::intValue).max().getAsInt();
        tell(most);
        return pits.indexOf(most);
    }

    // ---- alone

    int alone(int n) {
        if (n < 0 || n > 99) {
            return -1;
        }
        // PIT i is lifted m times, of the r lifts of it and the PITS behind it; each of the others puts a SEED in it.
        List<Integer> row = new ArrayList<>();
        int r = n;
        for (int i = 1; r > 0; i++) {
            int m = (r + i) / (i + 1);
            row.add((i + 1) * m - r);
            r -= m;
        }
        tellAll(row);
        return row.size();
    }

    int comes() {
        String signs = readText();
        for (int i = 0; i < signs.length(); i++) {
            if (i >= 20 || signs.charAt(i) < '0' || signs.charAt(i) > '9') {
                return -1 - i;
            }
        }
        if (signs.isEmpty()) {
            return -1;
        }
        List<Integer> pits = new ArrayList<>();
        for (char sign : signs.toCharArray()) {
            pits.add(sign - '0');
        }
        int inStore = 0;
        boolean goesOn = true;
        while (goesOn) {
            goesOn = false;
            for (int i = 0; i < pits.size() && !goesOn; i++) {
                if (pits.get(i) == i + 1) {
                    goesOn = true;
                    pits.set(i, 0);
                    for (int j = 0; j < i; j++) {
                        pits.set(j, pits.get(j) + 1);
                    }
                    inStore++;
                }
            }
        }
        tell(inStore, pits.stream().mapToInt(Integer::intValue).sum());
        return inStore;
    }

    // ---- which pit it was

    private static final int[] LAST_V = {1, 9, 9, 5, 1};

    int heard(int what, int v) {
        if (what < 0 || what > 4 || v < 0 || v > LAST_V[what] || heardThings.size() == 12) {
            return -1;
        }
        heardThings.add(new int[] {what, v});
        return heardThings.size();
    }

    int forget() {
        int had = heardThings.size();
        heardThings.clear();
        return had;
    }

    private boolean isSo(int pit, int what, int v) {
        int c = now.columns();
        return what == 0 ? pit / c == v
            : what == 1 ? now.seeds(pit) >= v
            : what == 2 ? now.seeds(2 * c - 1 - pit) >= v
            : what == 3 ? pit % c == v
            : (pit / c == now.turn() ? 1 : 0) == v;
    }

    private List<Integer> fitting() {
        List<Integer> pits = new ArrayList<>();
        for (int pit = 0; pit < 2 * now.columns(); pit++) {
            boolean fits = true;
            for (int[] thing : heardThings) {
                fits = fits && isSo(pit, thing[0], thing[1]);
            }
            if (fits) {
                pits.add(pit);
            }
        }
        return pits;
    }

    int fits() {
        int bits = 0;
        for (int pit : fitting()) {
            bits += 1 << pit;
        }
        tell(fitting().size());
        return bits;
    }

    int asks() {
        List<Integer> pits = fitting();
        if (pits.isEmpty()) {
            return -2;
        }
        int best = -1;
        int fewest = 100;
        for (int question = 0; question <= 41; question++) {
            int what = question / 10;
            int v = question % 10;
            if (v <= LAST_V[what]) {
                int so = (int) pits.stream().filter(pit -> isSo(pit, what, v)).count();
                int most = Math.max(so, pits.size() - so);
                if (most < fewest) {
                    fewest = most;
                    best = question;
                }
            }
        }
        tell(fewest);
        return best;
    }

    // ---- which laws they are

    int saw(int p, int place) {
        if (p < 0 || p > 5 || place < 0 || place > 11 && place != 50 || seenThings.size() == 10) {
            return -1;
        }
        seenThings.add(new int[] {p, place});
        return seenThings.size();
    }

    int denies() {
        int had = seenThings.size();
        seenThings.clear();
        return had;
    }

    private static String letters(int set) {
        StringBuilder letters = new StringBuilder();
        for (int i = 0; i < 6; i++) {
            if ((set >> i) % 2 == 1) {
                letters.append("srckxt".charAt(i));
            }
        }
        return letters.toString();
    }

    private List<Integer> sets() {
        List<Integer> sets = new ArrayList<>();
        for (int set = 0; set < 64; set++) {
            boolean fits = true;
            for (int[] thing : seenThings) {
                fits = fits && now.full().contains(thing[0]) && made(now, thing[0], letters(set)).place() == thing[1];
            }
            if (fits) {
                sets.add(set);
            }
        }
        return sets;
    }

    int guess() {
        List<Integer> sets = sets();
        tell();
        if (!sets.isEmpty()) {
            int all = 63;
            for (int set : sets) {
                all &= set;
            }
            tell(sets.get(0), all);
        }
        return sets.size();
    }

    int tries() {
        List<Integer> sets = sets();
        if (sets.isEmpty() || now.over()) {
            return -2;
        }
        int best = -1;
        int fewest = 100;
        for (int p : now.full()) {
            Map<Integer, Integer> places = new HashMap<>();
            for (int set : sets) {
                places.merge(made(now, p, letters(set)).place(), 1, Integer::sum);
            }
            int most = places.values().stream().mapToInt(Integer::intValue).max().getAsInt();
            if (most < fewest) {
                fewest = most;
                best = p;
            }
        }
        tell(fewest);
        return best;
    }

    // ---- bids, rules, years

    private static int[] had(int x, int y, int v) {
        if (x == y) {
            return new int[] {v / 3 - 1, v / 3 - 1};
        }
        return x > y ? new int[] {v - x, y / 2} : new int[] {x / 2, v - y};
    }

    int bids(int v) {
        if (v < 0 || v > 20) {
            return -1;
        }
        List<int[]> pairs = new ArrayList<>();
        for (int x = 0; x < 10; x++) {
            for (int y = 0; y < 10; y++) {
                boolean rests = true;
                for (int z = 0; z < 10; z++) {
                    rests = rests && had(z, y, v)[0] <= had(x, y, v)[0] && had(x, z, v)[1] <= had(x, y, v)[1];
                }
                if (rests) {
                    pairs.add(new int[] {x, y});
                }
            }
        }
        tell();
        if (!pairs.isEmpty()) {
            tell(pairs.get(0)[0], pairs.get(0)[1]);
        }
        return pairs.size();
    }

    private int lead(String ofSideZero, String ofSideOne) {
        State at = now;
        for (int i = 0; i < 20 && !at.over(); i++) {
            at = made(at, bestBy(at.turn() == 0 ? ofSideZero : ofSideOne, at), lawLetters).then();
        }
        return at.stored(0) - at.stored(1);
    }

    int other() {
        String signs = readText();
        int wrong = wrongInRule(signs);
        if (wrong >= 0) {
            return -1 - wrong;
        }
        int byIt = lead(signs, theRule);
        int as = lead(theRule, theRule);
        tell(300 + byIt, 300 + as);
        return 600 + byIt - as;
    }

    private long drawn;

    private int draw(int n) {
        drawn = (drawn * 1103515245L + 12345L) & 0xFFFFFFFFL;
        return (int) (drawn / 65536 % n);
    }

    int years(int seed, int n) {
        if (n < 1 || n > 60) {
            return -1;
        }
        drawn = seed & 0xFFFFFFFFL;
        State at = now;
        for (int i = 0; i < n && !at.over(); i++) {
            int p = draw(3) == 2 ? bestBy(theRule, at) : at.full().get(draw(at.full().size()));
            at = made(at, p, lawLetters).then();
        }
        tell(at.made() - now.made(), at.turn());
        return 300 + at.stored(0) - at.stored(1);
    }

    // ---- kept

    boolean keep(int i) {
        if (i != 0 && i != 1) {
            return false;
        }
        kept[i] = now;
        return true;
    }

    boolean again(int i) {
        if (i != 0 && i != 1 || kept[i] == null) {
            return false;
        }
        now = kept[i];
        undos.clear();
        return true;
    }

    int count(int what) {
        int lawSum = 0;
        for (char letter : lawLetters.toCharArray()) {
            lawSum += 1 << "srckxt".indexOf(letter);
        }
        int[] counts = {now.columns(), now.turn(), now.made(), now.all(), now.over() ? 1 : 0, lawSum,
            heardThings.size(), seenThings.size(), undos.size(), told.size(), text.length()};
        return what >= 0 && what < counts.length ? counts[what] : -1;
    }

    long row(int i) {
        if (i < 0 || i >= told.size()) {
            throw new NoSuchElementException();
        }
        return told.get(i);
    }
}
