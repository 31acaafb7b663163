import java.math.BigInteger;
import java.util.ArrayList;
import java.util.List;
import java.util.Map;
import java.util.TreeMap;
import java.util.regex.Pattern;

/**
 * The document told once more, by other means than the program's: whole numbers without a limit,
 * maps from places to weights, rows and columns instead of numbered cells. For tests alone.
 */
final class Oracle {
    static final int NONE = -1, UNKNOWN = -101, OUTSIDE = -102, STATE = -103, FULL = -104;
    private static final long POST_REFUSED = -1000000000000000000L;

    /** Where he may be and how he looks. */
    record Pose(int row, int column, int way) implements Comparable<Pose> {
        public int compareTo(Pose o) {
            return row != o.row ? row - o.row : column != o.column ? column - o.column : way - o.way;
        }
    }

    static final class Someone {
        int kind, row, column, size, cloth, giggle;

        Someone copy() {
            Someone s = new Someone();
            s.kind = kind;
            s.row = row;
            s.column = column;
            s.size = size;
            s.cloth = cloth;
            s.giggle = giggle;
            return s;
        }
    }

    private String page = "";
    private String[] ring = {};
    private TreeMap<Pose, BigInteger> weights = new TreeMap<>();
    private int updates, ringsRead, standsDone;
    private List<Someone> people = new ArrayList<>();
    private int u = 0, clothRight = 10, giggleRight = 10;
    private int[] jackets = {NONE, NONE, 0};
    private TreeMap<Pose, BigInteger> keptWeights;
    private int keptUpdates;
    private int[] keptJackets;
    private List<int[]> keptPlaces;

    private int width() {
        return ring.length == 0 ? 0 : ring[0].length();
    }

    private int cells() {
        return ring.length * width();
    }

    private char at(int row, int column) {
        return row < 0 || column < 0 || row >= ring.length || column >= width() ? 'x' : ring[row].charAt(column);
    }

    private boolean freeAt(int row, int column) {
        return ".b".indexOf(at(row, column)) >= 0;
    }

    private boolean known(int cell) {
        return cell >= 0 && cell < cells();
    }

    private boolean free(int cell) {
        return known(cell) && freeAt(cell / width(), cell % width());
    }

    private static boolean in(int number, int least, int most) {
        return least <= number && number <= most;
    }

    int letters(long w) {
        StringBuilder more = new StringBuilder();
        boolean ended = false;
        for (int i = 0; i < 8; i++) {
            int code = (int) Long.remainderUnsigned(Long.divideUnsigned(w, 1L << 8 * i), 256);
            if (code > 126 || ended && code != 0) {
                return OUTSIDE;
            }
            ended |= code == 0;
            if (code != 0) {
                more.append((char) code);
            }
        }
        if (page.length() + more.length() > 45) {
            return FULL;
        }
        page += more;
        return page.length();
    }

    int blank() {
        int had = page.length();
        page = "";
        return had;
    }

    /** Whether some RING begins with that text: it is made longer until it is one. */
    private static boolean begins(String text) {
        for (int wide = 2; wide <= 6; wide++) {
            String row = "[.bpx]{" + wide + "}";
            for (int rows = 2; rows <= 6; rows++) {
                int whole = rows * (wide + 1) - 1;
                if (text.length() <= whole) {
                    StringBuilder longer = new StringBuilder(text);
                    for (int i = text.length(); i < whole; i++) {
                        longer.append(i % (wide + 1) == wide ? '/' : '.');
                    }
                    if (Pattern.matches(row + "(/" + row + "){" + (rows - 1) + "}", longer)) {
                        return true;
                    }
                }
            }
        }
        return false;
    }

    int fault() {
        for (int i = 0; i < page.length(); i++) {
            if (!begins(page.substring(0, i + 1))) {
                return i;
            }
        }
        return page.length();
    }

    int ring() {
        String[] rows = page.split("/", -1);
        boolean whole = rows.length >= 2 && rows.length <= 6;
        for (String row : rows) {
            whole &= row.matches("[.bpx]{2,6}") && row.length() == rows[0].length();
        }
        if (!whole || page.indexOf('.') < 0 && page.indexOf('b') < 0) {
            return STATE;
        }
        ring = rows;
        page = "";
        people = new ArrayList<>();
        jackets = new int[] {NONE, NONE, 0};
        keptWeights = null;
        ringsRead++;
        lost();
        return cells();
    }

    int cell(int cell) {
        return known(cell) ? ".bpx".indexOf(at(cell / width(), cell % width())) : UNKNOWN;
    }

    int set(int cell, int way) {
        if (!free(cell)) {
            return UNKNOWN;
        }
        if (!in(way, 0, 3)) {
            return OUTSIDE;
        }
        weights = new TreeMap<>();
        weights.put(new Pose(cell / width(), cell % width(), way), BigInteger.ONE);
        updates = 0;
        return 1;
    }

    int lost() {
        if (ring.length == 0) {
            return STATE;
        }
        weights = new TreeMap<>();
        for (int cell = 0; cell < cells(); cell++) {
            for (int way = 0; way < 4 && free(cell); way++) {
                weights.put(new Pose(cell / width(), cell % width(), way), BigInteger.ONE);
            }
        }
        updates = 0;
        return weights.size();
    }

    private static void put(Map<Pose, BigInteger> into, Pose pose, BigInteger weight) {
        if (weight.signum() > 0) {
            into.merge(pose, weight, BigInteger::add);
        }
    }

    private int update(TreeMap<Pose, BigInteger> fresh) {
        BigInteger divisor = BigInteger.ZERO;
        for (BigInteger weight : fresh.values()) {
            divisor = divisor.gcd(weight);
        }
        if (divisor.signum() == 0) {
            return STATE;
        }
        weights = new TreeMap<>();
        for (Map.Entry<Pose, BigInteger> e : fresh.entrySet()) {
            weights.put(e.getKey(), e.getValue().divide(divisor));
        }
        updates++;
        return weights.size();
    }

    private static TreeMap<Pose, BigInteger> turnedBy(Map<Pose, BigInteger> from, int left, int straight, int right) {
        TreeMap<Pose, BigInteger> to = new TreeMap<>();
        for (Map.Entry<Pose, BigInteger> e : from.entrySet()) {
            Pose p = e.getKey();
            put(to, new Pose(p.row, p.column, (p.way + 3) % 4), e.getValue().multiply(BigInteger.valueOf(left)));
            put(to, p, e.getValue().multiply(BigInteger.valueOf(straight)));
            put(to, new Pose(p.row, p.column, (p.way + 1) % 4), e.getValue().multiply(BigInteger.valueOf(right)));
        }
        return to;
    }

    int turned(int a) {
        if (ring.length == 0) {
            return STATE;
        }
        if (!in(a, 0, 5)) {
            return OUTSIDE;
        }
        if (updates == 9) {
            return FULL;
        }
        return update(turnedBy(weights, a, 10 - 2 * a, a));
    }

    private static int down(int way) {
        return way == 0 ? -1 : way == 2 ? 1 : 0;
    }

    private static int right(int way) {
        return way == 1 ? 1 : way == 3 ? -1 : 0;
    }

    /** What is left of those that look so, if they went on and felt that. */
    private TreeMap<Pose, BigInteger> gone(Map<Pose, BigInteger> from, int felt) {
        TreeMap<Pose, BigInteger> to = new TreeMap<>();
        for (Map.Entry<Pose, BigInteger> e : from.entrySet()) {
            Pose p = e.getKey();
            int row = p.row + down(p.way);
            int column = p.column + right(p.way);
            char there = at(row, column);
            if (".xpb".charAt(felt) == there) {
                put(to, freeAt(row, column) ? new Pose(row, column, p.way) : p, e.getValue());
            }
        }
        return to;
    }

    int step(int drift, int felt) {
        if (ring.length == 0) {
            return STATE;
        }
        if (!in(drift, 0, 5) || !in(felt, 0, 3)) {
            return OUTSIDE;
        }
        if (updates == 9) {
            return FULL;
        }
        return update(gone(turnedBy(weights, drift, 10 - 2 * drift, drift), felt));
    }

    /** 0 up, 1 right, 2 down, 3 left. */
    private static int lies(int row, int column, int toRow, int toColumn) {
        int above = row - toRow;
        int beside = toColumn - column;
        if (above > 0 && above >= Math.abs(beside)) {
            return 0;
        }
        if (above < 0 && -above >= Math.abs(beside)) {
            return 2;
        }
        return beside > 0 ? 1 : 3;
    }

    private TreeMap<Pose, BigInteger> called(int cell, int from, int right) {
        int row = cell / width();
        int column = cell % width();
        TreeMap<Pose, BigInteger> to = new TreeMap<>();
        for (Map.Entry<Pose, BigInteger> e : weights.entrySet()) {
            Pose p = e.getKey();
            int by;
            if (p.row == row && p.column == column) {
                by = 15;
            } else if ((p.way + from) % 4 == lies(p.row, p.column, row, column)) {
                by = 6 * right;
            } else {
                by = 2 * (10 - right);
            }
            put(to, p, e.getValue().multiply(BigInteger.valueOf(by)));
        }
        return to;
    }

    int heard(int cell, int from, int right) {
        if (!free(cell)) {
            return UNKNOWN;
        }
        if (!in(from, 0, 3) || !in(right, 0, 10)) {
            return OUTSIDE;
        }
        if (updates == 9) {
            return FULL;
        }
        return update(called(cell, from, right));
    }

    private static long term(BigInteger above, BigInteger below, int part) {
        return (part == 0 ? above : below).divide(above.gcd(below)).longValueExact();
    }

    private static BigInteger sum(Map<Pose, BigInteger> of) {
        BigInteger all = BigInteger.ZERO;
        for (BigInteger weight : of.values()) {
            all = all.add(weight);
        }
        return all;
    }

    private BigInteger ofCell(Map<Pose, BigInteger> of, int cell) {
        BigInteger all = BigInteger.ZERO;
        for (Map.Entry<Pose, BigInteger> e : of.entrySet()) {
            if (e.getKey().row * width() + e.getKey().column == cell) {
                all = all.add(e.getValue());
            }
        }
        return all;
    }

    private BigInteger greatest(Map<Pose, BigInteger> of) {
        BigInteger most = BigInteger.ZERO;
        for (int cell = 0; cell < cells(); cell++) {
            most = most.max(ofCell(of, cell));
        }
        return most;
    }

    long odds(int cell, int part) {
        if (!known(cell)) {
            return UNKNOWN;
        }
        return in(part, 0, 1) ? term(ofCell(weights, cell), sum(weights), part) : OUTSIDE;
    }

    long ways(int way, int part) {
        if (ring.length == 0) {
            return STATE;
        }
        if (!in(way, 0, 3) || !in(part, 0, 1)) {
            return OUTSIDE;
        }
        BigInteger all = BigInteger.ZERO;
        for (Map.Entry<Pose, BigInteger> e : weights.entrySet()) {
            all = e.getKey().way == way ? all.add(e.getValue()) : all;
        }
        return term(all, sum(weights), part);
    }

    int likeliest() {
        if (ring.length == 0) {
            return STATE;
        }
        int cell = 0;
        while (!ofCell(weights, cell).equals(greatest(weights))) {
            cell++;
        }
        return cell;
    }

    long knows(int part) {
        if (ring.length == 0) {
            return STATE;
        }
        return in(part, 0, 1) ? term(greatest(weights), sum(weights), part) : OUTSIDE;
    }

    /** EXPECTED as a fraction: above and below. */
    private BigInteger[] expects(int doing, int drift, int cell, int right) {
        BigInteger above = BigInteger.ZERO;
        if (doing == 3) {
            for (int from = 0; from < 4; from++) {
                above = above.add(greatest(called(cell, from, right)));
            }
            return new BigInteger[] {above, sum(weights).multiply(BigInteger.valueOf(60))};
        }
        TreeMap<Pose, BigInteger> before = turnedBy(weights, doing == 1 ? 1 : 0, doing == 0 ? 1 : 0, doing == 2 ? 1 : 0);
        TreeMap<Pose, BigInteger> looks = turnedBy(before, drift, 10 - 2 * drift, drift);
        for (int felt = 0; felt < 4; felt++) {
            above = above.add(greatest(gone(looks, felt)));
        }
        return new BigInteger[] {above, sum(looks)};
    }

    long expected(int doing, int drift, int cell, int right, int part) {
        if (ring.length == 0) {
            return STATE;
        }
        if (!in(doing, 0, 3) || !in(drift, 0, 5) || !in(part, 0, 1)) {
            return OUTSIDE;
        }
        if (doing == 3 && !free(cell)) {
            return UNKNOWN;
        }
        if (doing == 3 && !in(right, 0, 10)) {
            return OUTSIDE;
        }
        if (updates > 7) {
            return STATE;
        }
        BigInteger[] is = expects(doing, drift, cell, right);
        return term(is[0], is[1], part);
    }

    int next(int drift, int cell, int right) {
        if (ring.length == 0) {
            return STATE;
        }
        if (!in(drift, 0, 5)) {
            return OUTSIDE;
        }
        if (!free(cell)) {
            return UNKNOWN;
        }
        if (!in(right, 0, 10)) {
            return OUTSIDE;
        }
        if (updates > 7) {
            return STATE;
        }
        int best = 3;
        for (int doing = 2; doing >= 0; doing--) {
            BigInteger[] is = expects(doing, drift, cell, right);
            BigInteger[] most = expects(best, drift, cell, right);
            if (is[0].multiply(most[1]).compareTo(most[0].multiply(is[1])) >= 0) {
                best = doing;
            }
        }
        return best;
    }

    long post(int cell, int drift, int part) {
        if (cell(cell) != 2) {
            return POST_REFUSED - 1;
        }
        if (!in(drift, 0, 5) || !in(part, 0, 1)) {
            return POST_REFUSED - 2;
        }
        if (updates > 7) {
            return POST_REFUSED - 3;
        }
        BigInteger[] with = expects(0, drift, 0, 0);
        String[] as = ring.clone();
        StringBuilder row = new StringBuilder(as[cell / width()]);
        row.setCharAt(cell % width(), 'x');
        ring[cell / width()] = row.toString();
        BigInteger[] without = expects(0, drift, 0, 0);
        ring = as;
        return term(with[0].multiply(without[1]).subtract(without[0].multiply(with[1])), with[1].multiply(without[1]), part);
    }

    int player(int kind, int cell, int size, int cloth, int giggle) {
        if (!in(kind, 0, 5)) {
            return OUTSIDE;
        }
        if (!free(cell)) {
            return UNKNOWN;
        }
        if (!in(size, 0, 9) || !in(cloth, 0, 4) || !in(giggle, 0, 4)) {
            return OUTSIDE;
        }
        if (people.size() == 6) {
            return FULL;
        }
        Someone s = new Someone();
        s.kind = kind;
        s.row = cell / width();
        s.column = cell % width();
        s.size = size;
        s.cloth = cloth;
        s.giggle = giggle;
        people.add(s);
        return people.size() - 1;
    }

    private boolean plays(int player) {
        return player >= 0 && player < people.size();
    }

    int as(int player, int kind) {
        if (!plays(player)) {
            return UNKNOWN;
        }
        if (!in(kind, 0, 5)) {
            return OUTSIDE;
        }
        String[] such = {"0", "01", "012", "03", "034", "05"};
        return such[people.get(player).kind].indexOf('0' + kind) >= 0 ? player : NONE;
    }

    int about(int player, int what) {
        if (!plays(player)) {
            return UNKNOWN;
        }
        if (!in(what, 0, 4)) {
            return OUTSIDE;
        }
        Someone s = people.get(player);
        return new int[] {s.kind, s.row * width() + s.column, s.size, s.cloth, s.giggle}[what];
    }

    int move(int player, int cell) {
        if (!plays(player) || !free(cell)) {
            return UNKNOWN;
        }
        int was = about(player, 1);
        people.get(player).row = cell / width();
        people.get(player).column = cell % width();
        return was;
    }

    private static int far(int row, int column, int toRow, int toColumn) {
        return Math.abs(row - toRow) + Math.abs(column - toColumn);
    }

    private long seed;

    private int draw() {
        seed = BigInteger.valueOf(1103515245).multiply(BigInteger.valueOf(seed)).add(BigInteger.valueOf(12345))
            .mod(BigInteger.TWO.pow(31)).longValueExact();
        return (int) (seed / 65536 % 10);
    }

    /** A GAME: who is touched, in which TENTH, his CELL and the SEED then. */
    private int[] played(int cell, int way, int drift, int first, int n) {
        seed = first;
        int row = cell / width();
        int column = cell % width();
        int looks = way;
        List<Someone> all = new ArrayList<>();
        for (Someone s : people) {
            all.add(s.copy());
        }
        for (int tenth = 0; tenth < n; tenth++) {
            for (Someone s : all) {
                if (s.kind == 1 || s.kind == 2) {
                    go(s, row, column, true);
                } else if (s.kind == 5) {
                    go(s, row - down(looks), column - right(looks), false);
                }
            }
            if (tenth % 3 == 0) {
                looks = afterCalls(all, row, column, looks);
            }
            if (draw() < drift) {
                looks = (looks + 1) % 4;
            }
            if (freeAt(row + down(looks), column + right(looks))) {
                row += down(looks);
                column += right(looks);
            } else {
                looks = (looks + 1) % 4;
            }
            for (int i = 0; i < all.size(); i++) {
                Someone s = all.get(i);
                if (s.row == row && s.column == column && (s.kind != 2 || draw() >= 5)) {
                    return new int[] {i, tenth, row * width() + column, (int) seed};
                }
            }
        }
        return new int[] {NONE, n, row * width() + column, (int) seed};
    }

    private void go(Someone s, int row, int column, boolean away) {
        int[][] places = {{s.row, s.column}, {s.row - 1, s.column}, {s.row, s.column + 1}, {s.row + 1, s.column},
            {s.row, s.column - 1}};
        int[] best = places[0];
        for (int[] place : places) {
            int now = far(place[0], place[1], row, column);
            int was = far(best[0], best[1], row, column);
            if (freeAt(place[0], place[1]) && (away ? now > was : now < was)) {
                best = place;
            }
        }
        s.row = best[0];
        s.column = best[1];
    }

    private int afterCalls(List<Someone> all, int row, int column, int looks) {
        int[] nearest = null;
        for (Someone s : all) {
            if (s.kind == 3 || s.kind == 4) {
                int[] call = s.kind == 3 ? new int[] {s.row, s.column}
                    : new int[] {ring.length - 1 - s.row, width() - 1 - s.column};
                if (nearest == null || far(call[0], call[1], row, column) < far(nearest[0], nearest[1], row, column)) {
                    nearest = call;
                }
            }
        }
        if (nearest == null || nearest[0] == row && nearest[1] == column) {
            return looks;
        }
        return lies(row, column, nearest[0], nearest[1]);
    }

    int game(int cell, int way, int drift, int seed, int n, int what) {
        if (!free(cell)) {
            return UNKNOWN;
        }
        if (!in(way, 0, 3) || !in(drift, 0, 9) || seed < 0 || !in(n, 1, 200) || !in(what, 0, 3)) {
            return OUTSIDE;
        }
        return played(cell, way, drift, seed, n)[what];
    }

    private int touches(int player, int cell, int way, int drift, int n, int m) {
        int times = 0;
        for (int first = 0; first < m; first++) {
            times += played(cell, way, drift, first, n)[0] == player ? 1 : 0;
        }
        return times;
    }

    int lasts(int cell, int way, int drift, int n, int m) {
        if (!free(cell)) {
            return UNKNOWN;
        }
        if (!in(way, 0, 3) || !in(drift, 0, 9) || !in(n, 1, 200) || !in(m, 1, 20)) {
            return OUTSIDE;
        }
        return touches(NONE, cell, way, drift, n, m);
    }

    int stand(int player, int cell, int way, int drift, int n, int m) {
        if (!plays(player) || !free(cell)) {
            return UNKNOWN;
        }
        if (!in(way, 0, 3) || !in(drift, 0, 9) || !in(n, 1, 50) || !in(m, 1, 9)) {
            return OUTSIDE;
        }
        if (standsDone == 20) {
            return STATE;
        }
        standsDone++;
        int was = about(player, 1);
        TreeMap<Integer, Integer> leastByTimes = new TreeMap<>();
        for (int other = cells() - 1; other >= 0; other--) {
            if (free(other)) {
                move(player, other);
                leastByTimes.put(touches(player, cell, way, drift, n, m), other);
            }
        }
        move(player, was);
        return leastByTimes.firstEntry().getValue();
    }

    int feels(int u, int cloth, int giggle) {
        if (!in(u, 0, 5) || !in(cloth, 0, 10) || !in(giggle, 0, 10)) {
            return OUTSIDE;
        }
        this.u = u;
        clothRight = cloth;
        giggleRight = giggle;
        return 1;
    }

    int jackets(int a, int b, int j) {
        if (!plays(a) || !plays(b) || a == b) {
            return UNKNOWN;
        }
        if (!in(j, 0, 10)) {
            return OUTSIDE;
        }
        jackets = new int[] {a, b, j};
        return 1;
    }

    /** In 16,000ths how likely what he felt is, if it is that one. */
    private BigInteger likely(int player, int size, int cloth, int giggle) {
        Someone s = people.get(player);
        int bySize = s.size == size ? 10 - 2 * u : Math.abs(s.size - size) == 1 ? u : 0;
        int byGiggle = s.giggle == giggle ? 4 * giggleRight : 10 - giggleRight;
        int byCloth = 10 * (s.cloth == cloth ? 4 * clothRight : 10 - clothRight);
        if (jackets[0] == player || jackets[1] == player) {
            int worn = people.get(jackets[0] + jackets[1] - player).cloth;
            int byOther = worn == cloth ? 4 * clothRight : 10 - clothRight;
            byCloth = byCloth / 10 * (10 - jackets[2]) + byOther * jackets[2];
        }
        return BigInteger.valueOf(bySize).multiply(BigInteger.valueOf(byGiggle)).multiply(BigInteger.valueOf(byCloth));
    }

    private BigInteger likelyAll(int size, int cloth, int giggle) {
        BigInteger all = BigInteger.ZERO;
        for (int i = 0; i < people.size(); i++) {
            all = all.add(likely(i, size, cloth, giggle));
        }
        return all;
    }

    int named(int player, int size, int cloth, int giggle, int part) {
        if (!plays(player)) {
            return UNKNOWN;
        }
        if (!in(size, 0, 9) || !in(cloth, 0, 4) || !in(giggle, 0, 4) || !in(part, 0, 1)) {
            return OUTSIDE;
        }
        BigInteger all = likelyAll(size, cloth, giggle);
        return all.signum() == 0 ? NONE : (int) term(likely(player, size, cloth, giggle), all, part);
    }

    int says(int size, int cloth, int giggle) {
        if (!in(size, 0, 9) || !in(cloth, 0, 4) || !in(giggle, 0, 4)) {
            return OUTSIDE;
        }
        int best = NONE;
        for (int i = people.size() - 1; i >= 0; i--) {
            BigInteger now = likely(i, size, cloth, giggle);
            if (now.signum() > 0 && (best == NONE || now.compareTo(likely(best, size, cloth, giggle)) >= 0)) {
                best = i;
            }
        }
        return best;
    }

    int when(int size, int cloth, int giggle, int worth, int costs) {
        int who = says(size, cloth, giggle);
        if (who == OUTSIDE || !in(worth, 0, 99) || !in(costs, 0, 99)) {
            return OUTSIDE;
        }
        if (who == NONE) {
            return 0;
        }
        long above = named(who, size, cloth, giggle, 0);
        long below = named(who, size, cloth, giggle, 1);
        return worth * above > costs * (below - above) ? 1 : 0;
    }

    int image() {
        if (ring.length == 0) {
            return STATE;
        }
        keptWeights = new TreeMap<>(weights);
        keptUpdates = updates;
        keptJackets = jackets.clone();
        keptPlaces = new ArrayList<>();
        for (Someone s : people) {
            keptPlaces.add(new int[] {s.row, s.column});
        }
        return people.size();
    }

    int restore() {
        if (keptWeights == null) {
            return STATE;
        }
        weights = new TreeMap<>(keptWeights);
        updates = keptUpdates;
        jackets = keptJackets.clone();
        for (int i = 0; i < keptPlaces.size(); i++) {
            people.get(i).row = keptPlaces.get(i)[0];
            people.get(i).column = keptPlaces.get(i)[1];
        }
        return people.size();
    }

    int count(int what) {
        int free = 0;
        for (int cell = 0; cell < cells(); cell++) {
            free += free(cell) ? 1 : 0;
        }
        int[] all = {cells(), free, people.size(), updates, weights.size(), page.length(), ringsRead, standsDone};
        return in(what, 0, 7) ? all[what] : OUTSIDE;
    }

    long digest() {
        List<Long> numbers = new ArrayList<>();
        for (int cell = 0; cell < cells(); cell++) {
            numbers.add((long) cell(cell));
        }
        for (int cell = 0; cell < cells(); cell++) {
            for (int way = 0; way < 4; way++) {
                Pose pose = new Pose(cell / width(), cell % width(), way);
                numbers.add(weights.getOrDefault(pose, BigInteger.ZERO).longValueExact());
            }
        }
        for (int player = 0; player < people.size(); player++) {
            for (int what = 0; what <= 4; what++) {
                numbers.add((long) about(player, what));
            }
        }
        for (int number : new int[] {u, clothRight, giggleRight, jackets[0], jackets[1], jackets[2]}) {
            numbers.add((long) number);
        }
        if (!people.isEmpty()) {
            int first = 0;
            while (!free(first)) {
                first++;
            }
            int[] is = played(first, 0, 2, 1, 20);
            numbers.add((long) is[0]);
            numbers.add((long) is[1]);
        }
        for (char c : page.toCharArray()) {
            numbers.add((long) c);
        }
        for (int what = 0; what <= 7; what++) {
            numbers.add((long) count(what));
        }
        long h = 457;
        for (long number : numbers) {
            h = 31 * h + number;
        }
        return h;
    }
}
