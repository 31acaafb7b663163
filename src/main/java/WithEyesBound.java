import java.util.Arrays;

/**
 * One with a scarf on in a ring: what he knows of where he is, those who play about him,
 * and whom he names when he has touched somebody.
 */
public final class WithEyesBound {
    public static final int NONE = -1, UNKNOWN = -101, OUTSIDE = -102, STATE = -103, FULL = -104;

    // post() may answer a worth below 0, so its refusals lie below every worth.
    private static final long POST_UNKNOWN = -1000000000000000001L;
    private static final long POST_OUTSIDE = -1000000000000000002L;
    private static final long POST_STATE = -1000000000000000003L;

    private static final int WAYS = 4;
    private static final int LEAST_SIDE = 2;
    private static final int MOST_SIDE = 6;
    private static final int MOST_CELLS = 36;
    private static final int MOST_WEIGHTS = 144;
    private static final int MOST_LETTERS = 45;
    private static final int LAST_CODE = 126;
    private static final int MOST_PLAYERS = 6;
    private static final int MOST_UPDATES = 9;
    private static final int UPDATES_TO_FORETELL = 7;
    private static final int MOST_STANDS = 20;

    private static final int FLOOR = 0;
    private static final int BOARD = 1;
    private static final int POST = 2;
    private static final int BEYOND = 3;

    private static final int KINDS = 6;
    private static final int A_SHY = 1;
    private static final int A_SMALL = 2;
    private static final int A_CALLER = 3;
    private static final int A_FEIGNED = 4;
    private static final int A_BEHIND = 5;

    private static final int CALL_HEARD = 3;
    private static final int SIXTIETHS = 60;

    /** What he feels of FLOOR, BOARD, POST and what is beyond. */
    private static final int[] FELT = {0, 3, 2, 1};
    /** The signs of FLOOR, BOARD, POST and OUTSIDE, each at its number. */
    private static final String SIGNS = ".bpx";
    private static final int[] ROW_STEP = {-1, 0, 1, 0};
    private static final int[] COLUMN_STEP = {0, 1, 0, -1};

    private final Page page = new Page();
    private final Ring ring = new Ring();
    private final Odds odds = new Odds(ring);
    private final Player[] players = new Player[MOST_PLAYERS];
    private final Round round = new Round(ring, players);
    private final Naming naming = new Naming(players);
    private int playing;
    private int ringsRead;
    private int standsDone;
    private boolean imageKept;

    public WithEyesBound() {
    }

    // ---- the ring

    public int letters(long w) {
        int more = Page.lettersIn(w);
        if (more < 0) {
            return OUTSIDE;
        }
        if (page.length + more > MOST_LETTERS) {
            return FULL;
        }
        page.write(w, more);
        return page.length;
    }

    public int blank() {
        int had = page.length;
        page.length = 0;
        return had;
    }

    public int fault() {
        return page.readOn();
    }

    public int ring() {
        if (!page.isWhole() || !page.hasFree()) {
            return STATE;
        }
        ring.readFrom(page);
        page.length = 0;
        for (int i = 0; i < players.length; i++) {
            players[i] = null;
        }
        playing = 0;
        naming.forgetJackets();
        odds.loseHim();
        imageKept = false;
        ringsRead++;
        return ring.size;
    }

    public int cell(int cell) {
        return ring.has(cell) ? ring.kindOf(cell) : UNKNOWN;
    }

    // ---- his odds

    public int set(int cell, int way) {
        if (!ring.isFree(cell)) {
            return UNKNOWN;
        }
        if (!isWithin(way, WAYS - 1)) {
            return OUTSIDE;
        }
        odds.putHim(cell, way);
        return 1;
    }

    public int lost() {
        if (!ring.isRead()) {
            return STATE;
        }
        odds.loseHim();
        return odds.aboveNought();
    }

    public int turned(int a) {
        if (!ring.isRead()) {
            return STATE;
        }
        if (!isWithin(a, 5)) {
            return OUTSIDE;
        }
        if (odds.updates >= MOST_UPDATES) {
            return FULL;
        }
        odds.foretellTurn(a);
        return odds.narrowTo(0);
    }

    public int step(int drift, int felt) {
        if (!ring.isRead()) {
            return STATE;
        }
        if (!isWithin(drift, 5) || !isWithin(felt, 3)) {
            return OUTSIDE;
        }
        if (odds.updates >= MOST_UPDATES) {
            return FULL;
        }
        odds.foretellStep(0, drift, NONE);
        return odds.narrowTo(felt);
    }

    public int heard(int cell, int from, int right) {
        if (!ring.isFree(cell)) {
            return UNKNOWN;
        }
        if (!isWithin(from, WAYS - 1) || !isWithin(right, 10)) {
            return OUTSIDE;
        }
        if (odds.updates >= MOST_UPDATES) {
            return FULL;
        }
        odds.foretellCall(cell, right);
        return odds.narrowTo(from);
    }

    public long odds(int cell, int part) {
        if (!ring.has(cell)) {
            return UNKNOWN;
        }
        if (!isWithin(part, 1)) {
            return OUTSIDE;
        }
        return term(odds.ofCell(cell), odds.total(), part);
    }

    public long ways(int way, int part) {
        if (!ring.isRead()) {
            return STATE;
        }
        if (!isWithin(way, WAYS - 1) || !isWithin(part, 1)) {
            return OUTSIDE;
        }
        return term(odds.ofWay(way), odds.total(), part);
    }

    public int likeliest() {
        return ring.isRead() ? odds.bestCell() : STATE;
    }

    public long knows(int part) {
        if (!ring.isRead()) {
            return STATE;
        }
        if (!isWithin(part, 1)) {
            return OUTSIDE;
        }
        return term(odds.ofCell(odds.bestCell()), odds.total(), part);
    }

    public long expected(int doing, int drift, int cell, int right, int part) {
        if (!ring.isRead()) {
            return STATE;
        }
        if (!isWithin(doing, 3) || !isWithin(drift, 5) || !isWithin(part, 1)) {
            return OUTSIDE;
        }
        if (doing == CALL_HEARD && !ring.isFree(cell)) {
            return UNKNOWN;
        }
        if (doing == CALL_HEARD && !isWithin(right, 10)) {
            return OUTSIDE;
        }
        if (odds.updates > UPDATES_TO_FORETELL) {
            return STATE;
        }
        return term(sixtiethsExpected(doing, drift, cell, right), SIXTIETHS * odds.total(), part);
    }

    public int next(int drift, int cell, int right) {
        if (!ring.isRead()) {
            return STATE;
        }
        if (!isWithin(drift, 5)) {
            return OUTSIDE;
        }
        if (!ring.isFree(cell)) {
            return UNKNOWN;
        }
        if (!isWithin(right, 10)) {
            return OUTSIDE;
        }
        if (odds.updates > UPDATES_TO_FORETELL) {
            return STATE;
        }
        return bestDoing(drift, cell, right);
    }

    public long post(int cell, int drift, int part) {
        if (!ring.has(cell) || ring.kindOf(cell) != POST) {
            return POST_UNKNOWN;
        }
        if (!isWithin(drift, 5) || !isWithin(part, 1)) {
            return POST_OUTSIDE;
        }
        if (odds.updates > UPDATES_TO_FORETELL) {
            return POST_STATE;
        }
        odds.foretellStep(0, drift, NONE);
        long with = odds.likeliestOfAll();
        odds.foretellStep(0, drift, cell);
        long without = odds.likeliestOfAll();
        return term(with - without, 10 * odds.total(), part);
    }

    // ---- players

    public int player(int kind, int cell, int size, int cloth, int giggle) {
        if (!isWithin(kind, KINDS - 1)) {
            return OUTSIDE;
        }
        if (!ring.isFree(cell)) {
            return UNKNOWN;
        }
        if (!couldBeFelt(size, cloth, giggle)) {
            return OUTSIDE;
        }
        if (playing < 0 || playing >= players.length) {
            return FULL;
        }
        Player one = playerOfKind(kind);
        one.told = cell;
        one.size = size;
        one.cloth = cloth;
        one.giggle = giggle;
        players[playing] = one;
        playing++;
        return playing - 1;
    }

    public int as(int player, int kind) {
        Player one = playerOf(player);
        if (one == null) {
            return UNKNOWN;
        }
        if (!isWithin(kind, KINDS - 1)) {
            return OUTSIDE;
        }
        return isOfKind(one, kind) ? player : NONE;
    }

    public int about(int player, int what) {
        Player one = playerOf(player);
        if (one == null) {
            return UNKNOWN;
        }
        return isWithin(what, 4) ? one.detail(what) : OUTSIDE;
    }

    public int move(int player, int cell) {
        Player one = playerOf(player);
        if (one == null || !ring.isFree(cell)) {
            return UNKNOWN;
        }
        int before = one.told;
        one.told = cell;
        return before;
    }

    public int game(int cell, int way, int drift, int seed, int n, int what) {
        if (!ring.isFree(cell)) {
            return UNKNOWN;
        }
        if (!mayStart(way, drift, n, 200) || seed < 0 || !isWithin(what, 3)) {
            return OUTSIDE;
        }
        round.begin(cell, way, drift, n);
        round.play(seed);
        return round.outcome(what);
    }

    public int lasts(int cell, int way, int drift, int n, int m) {
        if (!ring.isFree(cell)) {
            return UNKNOWN;
        }
        if (!mayStart(way, drift, n, 200) || m < 1 || m > 20) {
            return OUTSIDE;
        }
        round.begin(cell, way, drift, n);
        return round.seedsThatTouch(NONE, m, m);
    }

    public int stand(int player, int cell, int way, int drift, int n, int m) {
        Player one = playerOf(player);
        if (one == null || !ring.isFree(cell)) {
            return UNKNOWN;
        }
        if (!mayStart(way, drift, n, 50) || m < 1 || m > 9) {
            return OUTSIDE;
        }
        if (standsDone >= MOST_STANDS) {
            return STATE;
        }
        standsDone++;
        round.begin(cell, way, drift, n);
        int before = one.told;
        int best = NONE;
        int fewest = m + 1;
        for (int other = 0; other < ring.size && fewest > 0; other++) {
            if (ring.isFree(other)) {
                one.told = other;
                int times = round.seedsThatTouch(player, m, fewest);
                best = times < fewest ? other : best;
                fewest = Math.min(times, fewest);
            }
        }
        one.told = before;
        return best;
    }

    // ---- naming

    public int feels(int u, int cloth, int giggle) {
        if (!isWithin(u, 5) || !isWithin(cloth, 10) || !isWithin(giggle, 10)) {
            return OUTSIDE;
        }
        naming.sizeOff = u;
        naming.clothRight = cloth;
        naming.giggleRight = giggle;
        return 1;
    }

    public int jackets(int a, int b, int j) {
        if (playerOf(a) == null || playerOf(b) == null || a == b) {
            return UNKNOWN;
        }
        if (!isWithin(j, 10)) {
            return OUTSIDE;
        }
        naming.changeJackets(a, b, j);
        return 1;
    }

    public int named(int player, int size, int cloth, int giggle, int part) {
        if (playerOf(player) == null) {
            return UNKNOWN;
        }
        if (!couldBeFelt(size, cloth, giggle) || !isWithin(part, 1)) {
            return OUTSIDE;
        }
        naming.weigh(size, cloth, giggle);
        long all = naming.total();
        return all == 0 ? NONE : (int) term(naming.weightOf(player), all, part);
    }

    public int says(int size, int cloth, int giggle) {
        if (!couldBeFelt(size, cloth, giggle)) {
            return OUTSIDE;
        }
        naming.weigh(size, cloth, giggle);
        return naming.likeliestPlayer();
    }

    public int when(int size, int cloth, int giggle, int worth, int costs) {
        if (!couldBeFelt(size, cloth, giggle) || !isWithin(worth, 99) || !isWithin(costs, 99)) {
            return OUTSIDE;
        }
        naming.weigh(size, cloth, giggle);
        long right = naming.weightOf(naming.likeliestPlayer());
        long wrong = naming.total() - right;
        return worth * right > costs * wrong ? 1 : 0;
    }

    // ---- what is told of all

    public int image() {
        if (!ring.isRead()) {
            return STATE;
        }
        odds.keep();
        naming.keep();
        for (Player one : players) {
            if (one != null) {
                one.kept = one.told;
            }
        }
        imageKept = true;
        return playing;
    }

    public int restore() {
        if (!imageKept) {
            return STATE;
        }
        odds.takeKept();
        naming.takeKept();
        for (Player one : players) {
            if (one != null && one.kept != NONE) {
                one.told = one.kept;
            }
        }
        return playing;
    }

    public int count(int what) {
        switch (what) {
            case 0:
                return ring.size;
            case 1:
                return ring.free;
            case 2:
                return playing;
            case 3:
                return odds.updates;
            case 4:
                return odds.aboveNought();
            case 5:
                return page.length;
            case 6:
                return ringsRead;
            case 7:
                return standsDone;
            default:
                return OUTSIDE;
        }
    }

    public long digest() {
        long h = odds.mixInto(ring.mixInto(457L));
        for (Player one : players) {
            for (int what = 0; one != null && what <= 4; what++) {
                h = mixed(h, one.detail(what));
            }
        }
        h = naming.mixInto(h);
        if (playing > 0) {
            round.begin(ring.firstFree(), 0, 2, 20);
            round.play(1);
            h = mixed(mixed(h, round.outcome(0)), round.outcome(1));
        }
        h = page.mixInto(h);
        for (int what = 0; what <= 7; what++) {
            h = mixed(h, count(what));
        }
        return h;
    }

    // ---- what the calls share

    private static boolean isWithin(int number, int most) {
        return number >= 0 && number <= most;
    }

    private static boolean mayStart(int way, int drift, int n, int most) {
        return isWithin(way, WAYS - 1) && isWithin(drift, 9) && n >= 1 && n <= most;
    }

    private static boolean couldBeFelt(int size, int cloth, int giggle) {
        return isWithin(size, 9) && isWithin(cloth, 4) && isWithin(giggle, 4);
    }

    private static long mixed(long h, long number) {
        return 31 * h + number;
    }

    /** Euclid's way; 100 rounds are more than two longs can ask for. */
    private static long commonDivisor(long a, long b) {
        long x = a < 0 ? -a : a;
        long y = b < 0 ? -b : b;
        for (int round = 0; round < 100 && y != 0; round++) {
            long rest = x % y;
            x = y;
            y = rest;
        }
        return x;
    }

    private static long term(long above, long below, int part) {
        long divisor = commonDivisor(above, below);
        long whole = part == 0 ? above : below;
        return divisor == 0 ? whole : whole / divisor;
    }

    /** EXPECTED of a doing, where sixty times all weights together would be certainty. */
    private long sixtiethsExpected(int doing, int drift, int cell, int right) {
        if (doing == CALL_HEARD) {
            odds.foretellCall(cell, right);
            return odds.likeliestOfAll();
        }
        // Doing 1 turns him to the left, which is three ways on; 2 one way on, to the right.
        int turn = doing == 1 ? 3 : doing == 2 ? 1 : 0;
        odds.foretellStep(turn, drift, NONE);
        return 6 * odds.likeliestOfAll();
    }

    private int bestDoing(int drift, int cell, int right) {
        int best = 0;
        long most = -1;
        for (int doing = 0; doing <= CALL_HEARD; doing++) {
            long now = sixtiethsExpected(doing, drift, cell, right);
            if (now > most) {
                most = now;
                best = doing;
            }
        }
        return best;
    }

    private Player playerOf(int number) {
        return number >= 0 && number < players.length ? players[number] : null;
    }

    private static Player playerOfKind(int kind) {
        switch (kind) {
            case A_SHY:
                return new Shy();
            case A_SMALL:
                return new Small();
            case A_CALLER:
                return new Caller();
            case A_FEIGNED:
                return new Feigned();
            case A_BEHIND:
                return new Behind();
            default:
                return new Player();
        }
    }

    private static boolean isOfKind(Player one, int kind) {
        switch (kind) {
            case A_SHY:
                return one instanceof Shy;
            case A_SMALL:
                return one instanceof Small;
            case A_CALLER:
                return one instanceof Caller;
            case A_FEIGNED:
                return one instanceof Feigned;
            case A_BEHIND:
                return one instanceof Behind;
            default:
                return true;
        }
    }

    /** The letters that have come, and how far they tell a RING. */
    private static final class Page {
        private final char[] signs = new char[MOST_LETTERS];
        int length;
        private int row;
        private int column;
        private int width;

        /** How many letters the bytes of w tell; OUTSIDE, if they tell them wrongly. */
        static int lettersIn(long w) {
            int told = 0;
            for (int place = 0; place < 8; place++) {
                int code = codeAt(w, place);
                if (code > LAST_CODE || code != 0 && told < place) {
                    return OUTSIDE;
                }
                if (code != 0) {
                    told++;
                }
            }
            return told;
        }

        private static int codeAt(long w, int place) {
            return (int) (w >>> 8 * place) & 255;
        }

        void write(long w, int more) {
            for (int place = 0; place < more && length < signs.length; place++) {
                signs[length] = (char) codeAt(w, place);
                length++;
            }
        }

        /** NONE: a letter that tells no CELL. */
        int kindAt(int place) {
            return place >= 0 && place < signs.length ? SIGNS.indexOf(signs[place]) : NONE;
        }

        /** Reads until a letter that no RING has there: its place. */
        int readOn() {
            row = 0;
            column = 0;
            width = 0;
            for (int place = 0; place < length && place < signs.length; place++) {
                if (signs[place] == '/') {
                    if (!mayEndRow()) {
                        return place;
                    }
                    width = column;
                    column = 0;
                    row++;
                } else {
                    if (kindAt(place) == NONE || column >= (row == 0 ? MOST_SIDE : width)) {
                        return place;
                    }
                    column++;
                }
            }
            return length;
        }

        private boolean mayEndRow() {
            return row < MOST_SIDE - 1 && (row == 0 ? column >= LEAST_SIDE : column == width);
        }

        boolean isWhole() {
            return readOn() == length && row > 0 && column == width;
        }

        boolean hasFree() {
            for (int place = 0; place < length; place++) {
                int kind = kindAt(place);
                if (kind == FLOOR || kind == BOARD) {
                    return true;
                }
            }
            return false;
        }

        long mixInto(long h) {
            long now = h;
            for (int place = 0; place < length && place < signs.length; place++) {
                now = mixed(now, signs[place]);
            }
            return now;
        }
    }

    /** The CELLS, with what is beside each of them. */
    private static final class Ring {
        private final int[] kinds = new int[MOST_CELLS];
        private final int[] rows = new int[MOST_CELLS];
        private final int[] columns = new int[MOST_CELLS];
        private final int[] beside = new int[MOST_WEIGHTS];
        int size;
        int free;

        void readFrom(Page page) {
            size = 0;
            free = 0;
            int row = 0;
            int column = 0;
            for (int place = 0; place < page.length; place++) {
                int kind = page.kindAt(place);
                if (kind == NONE) {
                    row++;
                    column = 0;
                } else {
                    put(kind, row, column);
                    column++;
                }
            }
            findBeside(row + 1, column);
        }

        private void put(int kind, int row, int column) {
            if (size < kinds.length) {
                kinds[size] = kind;
                rows[size] = row;
                columns[size] = column;
                size++;
                free += kind == FLOOR || kind == BOARD ? 1 : 0;
            }
        }

        private void findBeside(int height, int width) {
            for (int place = 0; place < beside.length; place++) {
                int cell = place / WAYS;
                int row = rowOf(cell) + ROW_STEP[place & 3];
                int column = columnOf(cell) + COLUMN_STEP[place & 3];
                boolean inside = has(cell) && isWithin(row, height - 1) && isWithin(column, width - 1);
                beside[place] = inside ? row * width + column : NONE;
            }
        }

        boolean isRead() {
            return size > 0;
        }

        boolean has(int cell) {
            return cell >= 0 && cell < size;
        }

        int kindOf(int cell) {
            return cell >= 0 && cell < size && cell < kinds.length ? kinds[cell] : BEYOND;
        }

        boolean isFree(int cell) {
            return cell >= 0 && cell < size && cell < kinds.length && kinds[cell] <= BOARD;
        }

        int firstFree() {
            for (int cell = 0; cell < size; cell++) {
                if (isFree(cell)) {
                    return cell;
                }
            }
            return NONE;
        }

        /** The CELL ahead, NONE beyond the RING. */
        int ahead(int cell, int way) {
            int place = cell * WAYS + (way & 3);
            return place >= 0 && place < beside.length ? beside[place] : NONE;
        }

        int rowOf(int cell) {
            return cell >= 0 && cell < rows.length ? rows[cell] : 0;
        }

        int columnOf(int cell) {
            return cell >= 0 && cell < columns.length ? columns[cell] : 0;
        }

        int apart(int cell, int row, int column) {
            if (cell < 0 || cell >= rows.length || cell >= columns.length) {
                return 0;
            }
            int down = rows[cell] - row;
            int right = columns[cell] - column;
            return (down < 0 ? -down : down) + (right < 0 ? -right : right);
        }

        /** The WAY in which another CELL lies. */
        int wayTo(int here, int there) {
            int down = rowOf(there) - rowOf(here);
            int right = columnOf(there) - columnOf(here);
            if (down != 0 && Math.abs(down) >= Math.abs(right)) {
                return down < 0 ? 0 : 2;
            }
            return right > 0 ? 1 : 3;
        }

        /**
         * Of a CELL and the FREE ones beside it the nearest to a place (which may lie beyond),
         * or the farthest, if sign is -1; of like ones the first.
         */
        int choose(int cell, int row, int column, int sign) {
            int best = cell;
            int least = sign * apart(cell, row, column);
            for (int way = 0; way < WAYS; way++) {
                int other = ahead(cell, way);
                if (isFree(other)) {
                    int now = sign * apart(other, row, column);
                    if (now < least) {
                        least = now;
                        best = other;
                    }
                }
            }
            return best;
        }

        long mixInto(long h) {
            long now = h;
            for (int cell = 0; cell < size; cell++) {
                now = mixed(now, kindOf(cell));
            }
            return now;
        }
    }

    /**
     * HIS ODDS. The weight of a CELL and WAY stands at four times the CELL and the WAY.
     * The largest sum, 144 weights of 60 to the 9, is below 2 to the 61.
     */
    private static final class Odds {
        private final Ring ring;
        private final long[] weights = new long[MOST_WEIGHTS];
        private final long[] kept = new long[MOST_WEIGHTS];
        // By what he may feel or hear: the weights that would be left then.
        private final long[][] outcomes = new long[WAYS][MOST_WEIGHTS];
        int updates;
        private int keptUpdates;

        Odds(Ring ring) {
            this.ring = ring;
        }

        void putHim(int cell, int way) {
            Arrays.fill(weights, 0L);
            int place = cell * WAYS + way;
            if (place >= 0 && place < weights.length) {
                weights[place] = 1;
            }
            updates = 0;
        }

        void loseHim() {
            for (int place = 0; place < weights.length; place++) {
                weights[place] = ring.isFree(place / WAYS) ? 1 : 0;
            }
            updates = 0;
        }

        void keep() {
            System.arraycopy(weights, 0, kept, 0, MOST_WEIGHTS);
            keptUpdates = updates;
        }

        void takeKept() {
            System.arraycopy(kept, 0, weights, 0, MOST_WEIGHTS);
            updates = keptUpdates;
        }

        int aboveNought() {
            int above = 0;
            for (long weight : weights) {
                above += weight > 0 ? 1 : 0;
            }
            return above;
        }

        long total() {
            long sum = 0;
            for (long weight : weights) {
                sum += weight;
            }
            return sum;
        }

        long ofCell(int cell) {
            return sumOfCell(weights, cell * WAYS);
        }

        private static long sumOfCell(long[] row, int first) {
            if (first < 0 || first + 3 >= row.length) {
                return 0;
            }
            return row[first] + row[first + 1] + row[first + 2] + row[first + 3];
        }

        long ofWay(int way) {
            long sum = 0;
            for (int place = 0; place < weights.length; place++) {
                sum += (place & 3) == way ? weights[place] : 0;
            }
            return sum;
        }

        int bestCell() {
            int best = 0;
            for (int cell = 1; cell < ring.size; cell++) {
                if (ofCell(cell) > ofCell(best)) {
                    best = cell;
                }
            }
            return best;
        }

        void foretellTurn(int a) {
            clearOutcomes();
            for (int place = 0; place < weights.length; place++) {
                long weight = weights[place];
                if (weight > 0) {
                    int cell = place / WAYS;
                    add(0, cell, place + 3, a * weight);
                    add(0, cell, place, (10 - 2 * a) * weight);
                    add(0, cell, place + 1, a * weight);
                }
            }
        }

        /** A turn that is sure, then a STEP; a POST may be taken as OUTSIDE (NONE: no one is). */
        void foretellStep(int turn, int drift, int roped) {
            clearOutcomes();
            for (int place = 0; place < weights.length; place++) {
                long weight = weights[place];
                if (weight > 0) {
                    int cell = place / WAYS;
                    int way = place + turn;
                    walk(cell, way + 3, drift * weight, roped);
                    walk(cell, way, (10 - 2 * drift) * weight, roped);
                    walk(cell, way + 1, drift * weight, roped);
                }
            }
        }

        private void walk(int cell, int way, long weight, int roped) {
            int other = ring.ahead(cell, way);
            int kind = other == roped ? BEYOND : ring.kindOf(other);
            int felt = FELT[kind & 3];
            add(felt, kind <= BOARD ? other : cell, way, weight);
        }

        void foretellCall(int from, int right) {
            clearOutcomes();
            for (int place = 0; place < weights.length; place++) {
                long weight = weights[place];
                if (weight > 0) {
                    hearFrom(from, right, place, weight);
                }
            }
        }

        private void hearFrom(int from, int right, int place, long weight) {
            int cell = place / WAYS;
            int side = ring.wayTo(cell, from) - place & 3;
            for (int sign = 0; sign < WAYS; sign++) {
                int times = cell == from ? 15 : sign == side ? 6 * right : 2 * (10 - right);
                add(sign, cell, place, times * weight);
            }
        }

        private void clearOutcomes() {
            for (int sign = 0; sign < WAYS; sign++) {
                Arrays.fill(outcomes[sign], 0L);
            }
        }

        private void add(int sign, int cell, int way, long weight) {
            int place = cell * WAYS + (way & 3);
            if (place >= 0 && place < MOST_WEIGHTS) {
                outcomes[sign & 3][place] += weight;
            }
        }

        /** An UPDATE by what he felt or heard: how many weights are above 0; STATE, if it cannot be. */
        int narrowTo(int sign) {
            long[] left = outcomes[sign & 3];
            long divisor = 0;
            for (int place = 0; place < left.length && divisor != 1; place++) {
                divisor = commonDivisor(left[place], divisor);
            }
            if (divisor == 0) {
                return STATE;
            }
            for (int place = 0; place < weights.length && place < left.length; place++) {
                weights[place] = left[place] / divisor;
            }
            updates++;
            return aboveNought();
        }

        /** Over all he may feel or hear, the weights of the CELL that is likeliest then. */
        long likeliestOfAll() {
            long sum = 0;
            for (int sign = 0; sign < WAYS; sign++) {
                long most = 0;
                for (int first = 0; first < MOST_WEIGHTS; first += WAYS) {
                    most = Math.max(most, sumOfCell(outcomes[sign], first));
                }
                sum += most;
            }
            return sum;
        }

        long mixInto(long h) {
            long now = h;
            for (int place = 0; place < ring.size * WAYS && place < weights.length; place++) {
                now = mixed(now, weights[place]);
            }
            return now;
        }
    }

    /** A PLAYER that just stands; the others differ in what they do. */
    private static class Player {
        int told;
        // NONE: it came after the IMAGE.
        int kept = NONE;
        int at;
        int size;
        int cloth;
        int giggle;

        int kind() {
            return 0;
        }

        /** It goes on, while HE is in that row and column and looks that way. */
        void goOn(Ring ring, int row, int column, int way) {
        }

        /** The CELL from which its call comes; NONE: it does not call. */
        int callsFrom(Ring ring) {
            return NONE;
        }

        boolean isCaught(Round round) {
            return true;
        }

        int detail(int what) {
            switch (what) {
                case 0:
                    return kind();
                case 1:
                    return told;
                case 2:
                    return size;
                case 3:
                    return cloth;
                default:
                    return giggle;
            }
        }
    }

    private static class Shy extends Player {
        int kind() {
            return A_SHY;
        }

        void goOn(Ring ring, int row, int column, int way) {
            at = ring.choose(at, row, column, -1);
        }
    }

    private static final class Small extends Shy {
        int kind() {
            return A_SMALL;
        }

        boolean isCaught(Round round) {
            return round.draw() >= 5;
        }
    }

    private static class Caller extends Player {
        int kind() {
            return A_CALLER;
        }

        int callsFrom(Ring ring) {
            return at;
        }
    }

    private static final class Feigned extends Caller {
        int kind() {
            return A_FEIGNED;
        }

        int callsFrom(Ring ring) {
            // Rows and columns told from the other end: that is the number told from the other end.
            return ring.size - 1 - at;
        }
    }

    private static final class Behind extends Player {
        int kind() {
            return A_BEHIND;
        }

        void goOn(Ring ring, int row, int column, int way) {
            at = ring.choose(at, row - ROW_STEP[way & 3], column - COLUMN_STEP[way & 3], 1);
        }
    }

    /** A GAME, TENTH by TENTH. */
    private static final class Round {
        private final Ring ring;
        private final Player[] players;
        private int firstCell;
        private int firstWay;
        private int drift;
        private int tenths;
        private int hisCell;
        private int hisWay;
        private int tenth;
        private int touched;
        private long seed;

        Round(Ring ring, Player[] players) {
            this.ring = ring;
            this.players = players;
        }

        void begin(int cell, int way, int drifts, int n) {
            firstCell = cell;
            firstWay = way;
            drift = drifts;
            tenths = n;
        }

        void play(int firstSeed) {
            seed = firstSeed;
            hisCell = firstCell;
            hisWay = firstWay;
            touched = NONE;
            for (Player one : players) {
                if (one != null) {
                    one.at = one.told;
                }
            }
            for (int now = 0; now < tenths && touched == NONE; now++) {
                playersGo();
                if (now % 3 == 0) {
                    lookToCall();
                }
                heGoes();
                touch();
                tenth = touched == NONE ? now + 1 : now;
            }
        }

        int outcome(int what) {
            switch (what) {
                case 0:
                    return touched;
                case 1:
                    return tenth;
                case 2:
                    return hisCell;
                default:
                    return (int) seed;
            }
        }

        /** By how many SEEDS below m that PLAYER is touched (NONE: nobody is); it leaves off at enough. */
        int seedsThatTouch(int number, int m, int enough) {
            int times = 0;
            for (int first = 0; first < m && times < enough; first++) {
                play(first);
                times += touched == number ? 1 : 0;
            }
            return times;
        }

        /** A DRAW of 10. */
        int draw() {
            seed = 1103515245L * seed + 12345L & 2147483647L;
            return (int) (seed / 65536 % 10);
        }

        private void playersGo() {
            int row = ring.rowOf(hisCell);
            int column = ring.columnOf(hisCell);
            for (Player one : players) {
                if (one != null) {
                    one.goOn(ring, row, column, hisWay);
                }
            }
        }

        private void lookToCall() {
            int nearest = NONE;
            int least = 0;
            for (Player one : players) {
                int from = one == null ? NONE : one.callsFrom(ring);
                if (from != NONE) {
                    int far = ring.apart(from, ring.rowOf(hisCell), ring.columnOf(hisCell));
                    if (nearest == NONE || far < least) {
                        nearest = from;
                        least = far;
                    }
                }
            }
            if (nearest != NONE && nearest != hisCell) {
                hisWay = ring.wayTo(hisCell, nearest);
            }
        }

        private void heGoes() {
            if (draw() < drift) {
                hisWay = hisWay + 1 & 3;
            }
            int other = ring.ahead(hisCell, hisWay);
            if (ring.isFree(other)) {
                hisCell = other;
            } else {
                hisWay = hisWay + 1 & 3;
            }
        }

        private void touch() {
            for (int number = 0; number < players.length && touched == NONE; number++) {
                Player one = players[number];
                if (one != null && one.at == hisCell && one.isCaught(this)) {
                    touched = number;
                }
            }
        }
    }

    /** What he feels of a PLAYER that he has touched, and whom that tells. */
    private static final class Naming {
        private final Player[] players;
        private final int[] weights = new int[MOST_PLAYERS];
        int sizeOff;
        int clothRight = 10;
        int giggleRight = 10;
        private int first = NONE;
        private int second = NONE;
        private int changed;
        private int keptFirst = NONE;
        private int keptSecond = NONE;
        private int keptChanged;

        Naming(Player[] players) {
            this.players = players;
        }

        void changeJackets(int a, int b, int tenths) {
            first = a;
            second = b;
            changed = tenths;
        }

        void forgetJackets() {
            changeJackets(NONE, NONE, 0);
        }

        void keep() {
            keptFirst = first;
            keptSecond = second;
            keptChanged = changed;
        }

        void takeKept() {
            changeJackets(keptFirst, keptSecond, keptChanged);
        }

        /** Of each PLAYER how likely what he felt is, if it is this one. */
        void weigh(int size, int cloth, int giggle) {
            for (int number = 0; number < weights.length && number < players.length; number++) {
                Player one = players[number];
                weights[number] = one == null ? 0
                        : sizeWeight(size - one.size) * clothWeight(number, cloth)
                        * likeWeight(giggle == one.giggle, giggleRight);
            }
        }

        private int sizeWeight(int off) {
            return off == 0 ? 10 - 2 * sizeOff : off == 1 || off == -1 ? sizeOff : 0;
        }

        /** In fortieths: right in so many tenths, else one of four others. */
        private static int likeWeight(boolean like, int right) {
            return like ? 4 * right : 10 - right;
        }

        private int clothWeight(int number, int cloth) {
            int own = likeWeight(cloth == clothOf(number), clothRight);
            if (number != first && number != second) {
                return 10 * own;
            }
            int other = likeWeight(cloth == clothOf(number == first ? second : first), clothRight);
            return (10 - changed) * own + changed * other;
        }

        private int clothOf(int number) {
            Player one = number >= 0 && number < players.length ? players[number] : null;
            return one == null ? NONE : one.cloth;
        }

        long weightOf(int number) {
            return number >= 0 && number < weights.length ? weights[number] : 0;
        }

        long total() {
            long sum = 0;
            for (int weight : weights) {
                sum += weight;
            }
            return sum;
        }

        /** NONE: it can be nobody. */
        int likeliestPlayer() {
            int best = NONE;
            for (int number = 0; number < weights.length; number++) {
                if (weightOf(number) > weightOf(best)) {
                    best = number;
                }
            }
            return best;
        }

        long mixInto(long h) {
            long now = mixed(mixed(mixed(h, sizeOff), clothRight), giggleRight);
            return mixed(mixed(mixed(now, first), second), changed);
        }
    }
}
