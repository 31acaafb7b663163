import java.math.BigInteger;

/** Promises 19 to 25 and the GAME: a test for each sentence that names a boundary case. */
public final class PlayersBoundaryTest {
    private static final int NONE = Check.NONE, UNKNOWN = Check.UNKNOWN, OUTSIDE = Check.OUTSIDE,
        STATE = Check.STATE, FULL = Check.FULL;
    private static final int TOUCHED = 0, TENTH = 1, CELL = 2, SEED = 3;
    private static final int PLAYER = 0, SHY = 1, SMALL = 2, CALLER = 3, FEIGNED = 4, BEHIND = 5;
    private static final int GREATEST = Integer.MAX_VALUE;
    private static final String FOUR = "../..";
    private static final String NINE = ".../.../...";
    private static final String WIDE = "....../....../....../....../....../......";
    /** One CELL between POSTS and the ROPE: he stays, and draws once each TENTH. */
    private static final String SHUT = ".p/pp";
    private static final BigInteger TWO_TO_31 = BigInteger.ONE.shiftLeft(31);
    private static final BigInteger TIMES = BigInteger.valueOf(1103515245);
    private static final BigInteger AND = BigInteger.valueOf(12345);
    private static final Check check = new Check();

    public static void main(String[] args) throws Exception {
        Sentences.testEach(PlayersBoundaryTest.class, check);
    }

    private static int after(int seed) {
        return BigInteger.valueOf(seed).multiply(TIMES).add(AND).mod(TWO_TO_31).intValueExact();
    }

    /** The SEED whose next one is that. */
    private static int before(int seed) {
        return BigInteger.valueOf(seed).subtract(AND).multiply(TIMES.modInverse(TWO_TO_31)).mod(TWO_TO_31).intValueExact();
    }

    private static int draw(int seed) {
        return after(seed) / 65536 % 10;
    }

    /** A SEED whose first DRAWS are those. */
    private static int seedThatDraws(int... draws) {
        for (int seed = 0; seed < 1000000; seed++) {
            int now = seed;
            int like = 0;
            while (like < draws.length && draw(now) == draws[like]) {
                now = after(now);
                like++;
            }
            if (like == draws.length) {
                return seed;
            }
        }
        throw new IllegalStateException("no seed draws so");
    }

    private static WithEyesBound with(String ring, int kind, int cell) {
        WithEyesBound x = Check.withRing(ring);
        add(x, kind, cell);
        return x;
    }

    private static int add(WithEyesBound x, int kind, int cell) {
        return x.player(kind, cell, 0, 0, 0);
    }

    /** Without drift: who is touched, in which TENTH, where HE is then. */
    private static void seen(String what, WithEyesBound x, int[] from, int tenths, int touched, int tenth, int then) {
        check.due(what + ": who", x.game(from[0], from[1], 0, 0, tenths, TOUCHED), touched);
        check.due(what + ": when", x.game(from[0], from[1], 0, 0, tenths, TENTH), tenth);
        check.due(what + ": where", x.game(from[0], from[1], 0, 0, tenths, CELL), then);
    }

    private static void touchedAtOnce(String what, WithEyesBound x, int cell, int way, int then) {
        seen(what, x, new int[] {cell, way}, 1, 0, 0, then);
    }

    private static void notTouched(String what, WithEyesBound x, int cell, int way, int then) {
        seen(what, x, new int[] {cell, way}, 1, NONE, 1, then);
    }

    /** Where HE is behind each TENTH, nobody being touched. */
    private static void walks(String what, WithEyesBound x, int cell, int way, int... then) {
        for (int n = 1; n <= then.length; n++) {
            seen(what + ", " + n + " TENTHS", x, new int[] {cell, way}, n, NONE, n, then[n - 1]);
        }
    }

    // ---- what the terms say

    @Sentence(promise = 0, says = "PLAYERS (6 at most, numbered)")
    private static void sixAtMost() {
        WithEyesBound x = Check.withRing(FOUR);
        for (int player = 0; player < 6; player++) {
            check.due("number " + player, add(x, PLAYER, 0), player);
            check.due("PLAYERS", x.count(2), player + 1);
        }
        check.refused("the seventh", x, () -> add(x, PLAYER, 0), FULL);
        Check.readRing(x, FOUR);
        check.due("numbered anew in another RING", add(x, PLAYER, 0), 0);
    }

    @Sentence(promise = 0, says = "All are PLAYERS; a SMALL is SHY, a FEIGNED is a CALLER, too.")
    private static void kindsOfKinds() {
        WithEyesBound x = Check.withRing(FOUR);
        int[][] such = {{PLAYER}, {PLAYER, SHY}, {PLAYER, SHY, SMALL}, {PLAYER, CALLER}, {PLAYER, CALLER, FEIGNED},
            {PLAYER, BEHIND}};
        for (int kind = 5; kind >= 0; kind--) {
            int player = add(x, kind, 0);
            for (int as = 0; as <= 5; as++) {
                boolean is = false;
                for (int one : such[kind]) {
                    is |= one == as;
                }
                check.due("KIND " + kind + " as " + as, x.as(player, as), is ? player : NONE);
            }
        }
    }

    @Sentence(promise = 0, says = "DRIFTS in so many tenths (0 to 9)")
    private static void driftsLeastAndMost() {
        WithEyesBound x = Check.withRing(NINE);
        for (int drawn = 0; drawn <= 9; drawn++) {
            int seed = seedThatDraws(drawn);
            check.due("DRIFT 0 by a DRAW " + drawn, x.game(4, 0, 0, seed, 1, CELL), 1);
            check.due("DRIFT 9 by a DRAW " + drawn, x.game(4, 0, 9, seed, 1, CELL), drawn < 9 ? 5 : 1);
        }
    }

    @Sentence(promise = 0, says = "PLAYERS are where they were told")
    private static void whereTheyWereTold() {
        WithEyesBound x = with(NINE, SHY, 4);
        long before = x.digest();
        for (int i = 0; i < 2; i++) {
            touchedAtOnce("each GAME begins anew", x, 4, 0, 1);
            x.game(0, 1, 0, 0, 200, TOUCHED);
            x.lasts(0, 1, 3, 200, 20);
        }
        check.due("GAMES change nothing", x.digest(), before);
        x.move(0, 0);
        notTouched("told elsewhere", x, 4, 0, 1);
    }

    @Sentence(promise = 0, says = "A TENTH (from 0)")
    private static void tenthsFromNought() {
        WithEyesBound x = with("....../......", PLAYER, 1);
        for (int cell = 1; cell <= 5; cell++) {
            x.move(0, cell);
            seen("to " + cell, x, new int[] {0, 1}, 9, 0, cell - 1, cell);
            seen("to " + cell + " in the last TENTH", x, new int[] {0, 1}, cell, 0, cell - 1, cell);
        }
    }

    @Sentence(promise = 0, says = "that is farthest from HIM (ROWS and columns together), of like ones the first told (its own first)")
    private static void shyOfLikeOnes() {
        // It begins in his own CELL: all that are FREE beside it are as far.
        String[] rings = {NINE, ".p./.../...", ".p./..p/...", ".p./..p/.p.", ".x./x.x/.x."};
        int[] beside = {1, 5, 7, 3};
        for (int first = 0; first <= 3; first++) {
            WithEyesBound x = with(rings[first], SHY, 4);
            for (int way = first; way <= 3; way++) {
                if (way == first) {
                    touchedAtOnce("shut " + first + ", looking " + way, x, 4, way, beside[way]);
                } else {
                    notTouched("shut " + first + ", looking " + way, x, 4, way,
                        x.cell(beside[way]) == 0 ? beside[way] : 4);
                }
            }
        }
        WithEyesBound shut = with(rings[4], SHY, 4);
        for (int way = 0; way <= 3; way++) {
            touchedAtOnce("shut on all sides, looking " + way, shut, 4, way, 4);
        }
        WithEyesBound end = with(".x/.x/.x", SHY, 4);
        seen("at an end it stays", end, new int[] {0, 2}, 9, 0, 1, 4);
    }

    @Sentence(promise = 0, says = "nearest to the CELL behind HIM (beyond the RING, too), likewise")
    private static void behindBeyond() {
        // HE stays, as a POST is ahead; from beside his CELL it comes to him, as behind him is beyond.
        touchedAtOnce("above", with(".../p../...", BEHIND, 1), 0, 2, 0);
        touchedAtOnce("to the left", with(".p./.../...", BEHIND, 3), 0, 1, 0);
        touchedAtOnce("below", with(".../p../...", BEHIND, 7), 6, 0, 6);
        touchedAtOnce("to the right", with(".p./.../...", BEHIND, 5), 2, 3, 2);
        touchedAtOnce("to the left is not the ROW above", with(".../.p./...", BEHIND, 0), 3, 1, 3);
        touchedAtOnce("to the right is not the ROW below", with(".../.p./...", BEHIND, 8), 5, 3, 5);
    }

    @Sentence(promise = 0, says = "a BEHIND to that which is nearest")
    private static void behindOfLikeOnes() {
        // HE stays in 4, as a POST is ahead; it is touched just where it comes to 4.
        touchedAtOnce("right ahead of down", with(".p./.../...", BEHIND, 3), 4, 0, 4);
        notTouched("down ahead of left", with(".p./.../...", BEHIND, 5), 4, 0, 4);
        notTouched("up ahead of right", with(".../.../.p.", BEHIND, 3), 4, 2, 4);
        notTouched("up ahead of left", with(".../.../.p.", BEHIND, 5), 4, 2, 4);
        notTouched("below it stays", with(".p./.../...", BEHIND, 7), 4, 0, 4);
        notTouched("to the left it stays", with(".../..p/...", BEHIND, 3), 4, 1, 4);
        notTouched("above it stays", with(".../.../.p.", BEHIND, 1), 4, 2, 4);
        notTouched("to the right it stays", with(".../p../...", BEHIND, 5), 4, 3, 4);
        touchedAtOnce("shut in it stays", with(SHUT, BEHIND, 0), 0, 0, 0);
    }

    @Sentence(promise = 0, says = "all others stand")
    private static void othersStand() {
        // HE stays in 4, as a POST is ahead, and so do they (calls of 4, false ones, too, come from 4).
        for (int kind : new int[] {PLAYER, CALLER, FEIGNED}) {
            touchedAtOnce("KIND " + kind, with(".p./.../...", kind, 4), 4, 0, 4);
        }
        for (int kind : new int[] {SHY, SMALL, BEHIND}) {
            notTouched("but KIND " + kind, with(".p./.../...", kind, 4), 4, 0, 4);
        }
    }

    @Sentence(promise = 0, says = "In each third TENTH (0, 3 and so on) each CALLER calls")
    private static void callsInEachThirdTenth() {
        // Down to 6 by the call of TENTH 0; in 1 and 2 there is none, in 3 it lies right.
        WithEyesBound x = with(NINE, CALLER, 8);
        walks("0 and 3", x, 0, 0, 3, 6, 6, 7);
        seen("then it is touched", x, new int[] {0, 0}, 9, 0, 4, 8);
        // It is shut in; at 1 its call turns him down, where he stays: without those of 6 and 9 he would go right.
        WithEyesBound y = with("x...../.x....", CALLER, 6);
        walks("6 and 9", y, 5, 0, 4, 3, 2, 1, 1, 1, 1, 1, 1, 1);
    }

    @Sentence(promise = 0, says = "a FEIGNED from the CELL as far from the other end both ways")
    private static void feignedFromTheOtherEnd() {
        for (int way = 0; way < 4; way++) {
            WithEyesBound x = with(NINE, FEIGNED, 8);
            walks("8 calls from 0, from 1 it lies left", x, 1, way, 0);
            walks("from 3 it lies up", x, 3, way, 0);
            x.move(0, 0);
            walks("0 calls from 8, from 7 it lies right", x, 7, way, 8);
            walks("from 5 it lies down", x, 5, way, 8);
            x.move(0, 2);
            walks("2 calls from 6, from 7 it lies left", x, 7, way, 6);
            x.move(0, 6);
            walks("6 calls from 2, from 5 it lies up", x, 5, way, 2);
            x.move(0, 4);
            walks("4 calls from 4, from 8 it lies up", x, 8, way, 5);
        }
        walks("from a POST", with(".../.../p..", FEIGNED, 2), 8, 0, 7);
        walks("from OUTSIDE", with(".../.../x..", FEIGNED, 2), 8, 0, 7);
        WithEyesBound y = with("..../....", FEIGNED, 1);
        walks("two ROWS: 1 calls from 6", y, 7, 0, 6);
    }

    @Sentence(promise = 0, says = "the nearest to HIM, of like ones that of the least PLAYER, if it is not his own CELL")
    private static void callsOfLikeOnes() {
        WithEyesBound x = with(NINE, CALLER, 2);
        add(x, CALLER, 6);
        walks("2 and 6 are as far: the least PLAYER's", x, 0, 0, 1);
        x.move(0, 6);
        x.move(1, 2);
        walks("6 and 2", x, 0, 0, 3);
        x.move(0, 8);
        walks("the nearest is that of the other one", x, 0, 0, 1);
        x.move(1, 0);
        for (int way = 1; way <= 2; way++) {
            walks("in his own CELL: he looks as he did", x, 0, way, way == 1 ? 1 : 3);
        }
        x.move(1, 8);
        x.move(0, 0);
        walks("in his own CELL, of the least PLAYER", x, 0, 1, 1);
    }

    @Sentence(promise = 0, says = "without one he looks as he did")
    private static void withoutACall() {
        int[] then = {1, 5, 7, 3};
        for (int way = 0; way < 4; way++) {
            walks("no PLAYERS", Check.withRing(NINE), 4, way, then[way]);
            WithEyesBound x = with(NINE, PLAYER, 0);
            add(x, SHY, 8);
            walks("none that calls", x, 4, way, then[way]);
        }
    }

    @Sentence(promise = 0, says = "if a DRAW of 10 is below DRIFT, to the next WAY")
    private static void drawBelowDrift() {
        WithEyesBound x = Check.withRing(NINE);
        int[] about = {1, 5, 7, 3};
        for (int drift = 1; drift <= 9; drift++) {
            int below = seedThatDraws(drift - 1);
            int like = seedThatDraws(drift);
            for (int way = 0; way < 4; way++) {
                String what = "DRIFT " + drift + " looking " + way;
                check.due(what + ", just below", x.game(4, way, drift, below, 1, CELL), about[(way + 1) % 4]);
                check.due(what + ", as many", x.game(4, way, drift, like, 1, CELL), about[way]);
            }
        }
    }

    @Sentence(promise = 0, says = "He goes a CELL, if it is FREE; else he stays and looks to the next WAY.")
    private static void elseLooksToTheNextWay() {
        walks("from left to up to right", Check.withRing(NINE), 0, 3, 0, 0, 1, 2, 2, 5);
        walks("from right to down", Check.withRing(NINE), 2, 1, 2, 5, 8, 8, 7);
        walks("a POST, an OUTSIDE one", Check.withRing(".p./x../..."), 0, 1, 0, 0, 0, 0, 0, 0, 0, 0);
        walks("a BOARD is FREE", Check.withRing(".b/bb"), 0, 1, 1, 1, 3, 3, 2);
    }

    @Sentence(promise = 0, says = "Of PLAYERS in his CELL, in order, he touches the first one")
    private static void touchesTheFirst() {
        WithEyesBound x = Check.withRing(NINE);
        add(x, PLAYER, 2);
        add(x, PLAYER, 1);
        add(x, PLAYER, 1);
        seen("1 of 1 and 2", x, new int[] {0, 1}, 1, 1, 0, 1);
        x.move(0, 1);
        seen("0 of three", x, new int[] {0, 1}, 1, 0, 0, 1);
        x.move(0, 0);
        x.move(1, 0);
        x.move(2, 0);
        seen("in the CELL that he leaves nobody is", x, new int[] {0, 1}, 1, NONE, 1, 1);
        seen("where he stays", x, new int[] {0, 0}, 1, 0, 0, 0);
        WithEyesBound six = Check.withRing(NINE);
        for (int player = 0; player < 6; player++) {
            add(six, PLAYER, player == 5 ? 1 : 8);
        }
        seen("the last of six", six, new int[] {0, 1}, 1, 5, 0, 1);
    }

    @Sentence(promise = 0, says = "a SMALL just, if a DRAW of 10 is 5 or more, else the next one")
    private static void smallByADraw() {
        WithEyesBound x = with(SHUT, SMALL, 0);
        for (int drawn = 0; drawn <= 9; drawn++) {
            int seed = seedThatDraws(3, drawn);
            check.due("a DRAW " + drawn, x.game(0, 0, 0, seed, 1, TOUCHED), drawn >= 5 ? 0 : NONE);
            check.due("the SEED then by " + drawn, x.game(0, 0, 0, seed, 1, SEED), after(after(seed)));
        }
        add(x, SMALL, 0);
        int second = seedThatDraws(3, 4, 5);
        check.due("else the next one", x.game(0, 0, 0, second, 1, TOUCHED), 1);
        check.due("a DRAW of its own", x.game(0, 0, 0, second, 1, SEED), after(after(after(second))));
        int neither = seedThatDraws(3, 4, 4);
        check.due("neither", x.game(0, 0, 0, neither, 1, TOUCHED), NONE);
        add(x, PLAYER, 0);
        check.due("then one who is not SMALL", x.game(0, 0, 0, neither, 1, TOUCHED), 2);
        check.due("without a DRAW", x.game(0, 0, 0, neither, 1, SEED), after(after(after(neither))));
    }

    @Sentence(promise = 0, says = "the GAME ends with that")
    private static void endsWithThat() {
        WithEyesBound x = with("....../......", PLAYER, 2);
        add(x, PLAYER, 3);
        add(x, SMALL, 2);
        for (int n : new int[] {2, 3, 200}) {
            seen("of " + n + " TENTHS", x, new int[] {0, 1}, n, 0, 1, 2);
            check.due("the SEED then, of " + n, x.game(0, 1, 0, 77, n, SEED), after(after(77)));
        }
    }

    @Sentence(promise = 0, says = "1103515245 times it and 12345, its rest by 2 to the 31")
    private static void seedsWrapAround() {
        WithEyesBound x = Check.withRing(SHUT);
        check.due("behind SEED 0", x.game(0, 0, 0, 0, 1, SEED), 12345);
        for (int seed : new int[] {0, 1, 2, 3, 1 << 16, 1 << 30, GREATEST - 1, GREATEST, before(0), before(GREATEST)}) {
            check.due("behind " + seed, x.game(0, 0, 0, seed, 1, SEED), after(seed));
            check.due("two behind " + seed, x.game(0, 0, 0, seed, 2, SEED), after(after(seed)));
        }
        int now = 5;
        for (int i = 0; i < 200; i++) {
            now = after(now);
        }
        check.due("200 behind 5", x.game(0, 0, 0, 5, 200, SEED), now);
    }

    @Sentence(promise = 0, says = "a DRAW of d: the next SEED, by 65536 (rounded down), its rest by d")
    private static void drawsRoundedDown() {
        WithEyesBound x = Check.withRing(NINE);
        int[][] draws = {{0, 0}, {65535, 0}, {65536, 1}, {2 * 65536 - 1, 1}, {9 * 65536, 9}, {10 * 65536 - 1, 9},
            {10 * 65536, 0}, {11 * 65536 - 1, 0}, {11 * 65536, 1}, {GREATEST, 7}, {GREATEST - 65535, 7}, {GREATEST - 65536, 6}};
        for (int[] next : draws) {
            int seed = before(next[0]);
            for (int drift = 0; drift <= 9; drift++) {
                check.due("the next SEED " + next[0] + ", DRIFT " + drift, x.game(4, 0, drift, seed, 1, CELL),
                    next[1] < drift ? 5 : 1);
            }
        }
    }

    @Sentence(promise = 0, says = "by how many of SEEDS 0 to m less 1 nobody is touched in n TENTHS")
    private static void lastsOfSeeds() {
        WithEyesBound x = with(NINE, PLAYER, 1);
        for (int drift = 0; drift <= 9; drift++) {
            int due = 0;
            for (int m = 1; m <= 20; m++) {
                due += draw(m - 1) < drift ? 1 : 0;
                check.due("m " + m + ", DRIFT " + drift, x.lasts(4, 0, drift, 1, m), due);
            }
        }
        check.due("no PLAYERS", Check.withRing(NINE).lasts(4, 0, 9, 200, 20), 20);
        x.move(0, 2);
        check.due("the TENTH behind n is not looked at", x.lasts(0, 1, 0, 1, 20), 20);
        check.due("the last of n is", x.lasts(0, 1, 0, 2, 20), 0);
    }

    @Sentence(promise = 0, says = "the FREE CELL in which a PLAYER is touched by fewest of these SEEDS, if it was told there; of like ones the least.")
    private static void standOfLikeOnes() {
        WithEyesBound x = with("../..", PLAYER, 3);
        check.due("never touched: the least", x.stand(0, 3, 0, 0, 1, 9), 0);
        check.due("always touched in the least: the next", x.stand(0, 1, 3, 0, 1, 9), 1);
        check.due("all are touched: the least", x.stand(0, 0, 1, 0, 50, 9), 0);
        check.due("it stays where it was told", x.about(0, 1), 3);
        WithEyesBound y = with("xp/.b", PLAYER, 2);
        check.due("the least FREE one", y.stand(0, 2, 0, 0, 50, 9), 2);
        check.due("the last of all", y.stand(0, 3, 3, 0, 1, 1), 3);
        // By one SEED he goes up or, drifting, to the right; he begins in 4, where she is not touched.
        WithEyesBound z = with("p.p/p../ppp", PLAYER, 1);
        int up = 0;
        for (int seed = 0; seed < 9; seed++) {
            up += draw(seed) < 5 ? 0 : 1;
        }
        check.holds("both ways are gone", up > 0 && up < 9);
        check.due("fewest of nine SEEDS", z.stand(0, 4, 0, 5, 1, 9), 4);
        add(z, PLAYER, 4);
        int first = draw(0) < 5 ? 5 : 1;
        check.due("one SEED: the CELL to which he does not go", z.stand(0, 4, 0, 5, 1, 1), first == 1 ? 4 : 1);
    }

    // ---- 19 player

    @Sentence(promise = 19, says = "A PLAYER: its number.")
    private static void playerOfLeastAndMost() {
        WithEyesBound x = Check.withRing(WIDE);
        check.due("the least of all", x.player(0, 0, 0, 0, 0), 0);
        check.due("the most of all", x.player(5, 35, 9, 4, 4), 1);
        check.due("in the same CELL", x.player(1, 35, 9, 4, 4), 2);
        int[][] due = {{0, 0, 0, 0, 0}, {5, 35, 9, 4, 4}, {1, 35, 9, 4, 4}};
        for (int player = 0; player < 3; player++) {
            for (int what = 0; what <= 4; what++) {
                check.due("about(" + player + ", " + what + ")", x.about(player, what), due[player][what]);
            }
        }
    }

    @Sentence(promise = 19, says = "OUTSIDE: kind")
    private static void playerKind() {
        WithEyesBound x = Check.withRing(".b/px");
        check.refusedBeyond("kind", x, 0, 5, OUTSIDE, kind -> x.player(kind, 0, 0, 0, 0));
        check.refused("ahead of UNKNOWN", x, () -> x.player(6, 4, 0, 0, 0), OUTSIDE);
        WithEyesBound y = new WithEyesBound();
        check.refused("without a RING", y, () -> y.player(6, 0, 0, 0, 0), OUTSIDE);
        check.taken("kind", 0, 5, kind -> x.player(kind, 0, 0, 0, 0));
    }

    @Sentence(promise = 19, says = "UNKNOWN: cell (one that is not FREE, too)")
    private static void playerCell() {
        WithEyesBound x = Check.withRing(".b/px");
        check.refusedBeyond("cell", x, 0, 3, UNKNOWN, cell -> x.player(0, cell, 0, 0, 0));
        check.refused("a POST", x, () -> x.player(0, 2, 0, 0, 0), UNKNOWN);
        check.refused("an OUTSIDE one", x, () -> x.player(0, 3, 0, 0, 0), UNKNOWN);
        check.refused("ahead of OUTSIDE: size", x, () -> x.player(0, 4, 10, 5, 5), UNKNOWN);
        check.taken("cell", 0, 1, cell -> x.player(0, cell, 0, 0, 0));
        WithEyesBound y = new WithEyesBound();
        check.refused("without a RING", y, () -> y.player(0, 0, 0, 0, 0), UNKNOWN);
    }

    @Sentence(promise = 19, says = "OUTSIDE: size, cloth, giggle")
    private static void playerSizeClothGiggle() {
        WithEyesBound x = Check.withRing(".b/px");
        check.refusedBeyond("size", x, 0, 9, OUTSIDE, size -> x.player(0, 0, size, 0, 0));
        check.refusedBeyond("cloth", x, 0, 4, OUTSIDE, cloth -> x.player(0, 0, 0, cloth, 0));
        check.refusedBeyond("giggle", x, 0, 4, OUTSIDE, giggle -> x.player(0, 0, 0, 0, giggle));
        check.taken("size", 0, 9, size -> x.player(0, 0, size, 0, 0));
        check.taken("cloth", 0, 4, cloth -> x.player(0, 0, 0, cloth, 0));
        check.taken("giggle", 0, 4, giggle -> x.player(0, 0, 0, 0, giggle));
    }

    @Sentence(promise = 19, says = "FULL.")
    private static void playerFull() {
        WithEyesBound x = Check.withRing(".b/px");
        for (int player = 0; player < 6; player++) {
            add(x, player, 1);
        }
        for (int kind = 0; kind <= 5; kind++) {
            int seventh = kind;
            check.refused("the seventh, KIND " + kind, x, () -> x.player(seventh, 0, 9, 4, 4), FULL);
        }
        check.refused("behind OUTSIDE: kind", x, () -> x.player(6, 0, 0, 0, 0), OUTSIDE);
        check.refused("behind UNKNOWN", x, () -> x.player(0, 2, 0, 0, 0), UNKNOWN);
        check.refused("behind OUTSIDE: giggle", x, () -> x.player(0, 0, 0, 0, 5), OUTSIDE);
    }

    // ---- 20 as, 21 about, 22 move

    @Sentence(promise = 20, says = "its own number (not that of the KIND); NONE: it is none such (the cast fails)")
    private static void asItself() {
        WithEyesBound x = with(FOUR, BEHIND, 0);
        check.due("0 as a BEHIND", x.as(0, BEHIND), 0);
        check.due("0 as a PLAYER", x.as(0, PLAYER), 0);
        check.due("0 as a SHY", x.as(0, SHY), NONE);
        check.due("0 as a FEIGNED", x.as(0, FEIGNED), NONE);
        add(x, SHY, 0);
        check.due("a SHY is no SMALL", x.as(1, SMALL), NONE);
        add(x, CALLER, 0);
        check.due("a CALLER is no FEIGNED", x.as(2, FEIGNED), NONE);
        check.due("a CALLER", x.as(2, CALLER), 2);
    }

    @Sentence(promise = 20, says = "UNKNOWN; OUTSIDE.")
    private static void asRefusals() {
        WithEyesBound x = with(FOUR, PLAYER, 0);
        add(x, PLAYER, 0);
        check.refusedBeyond("player", x, 0, 1, UNKNOWN, player -> x.as(player, 0));
        check.refusedBeyond("kind", x, 0, 5, OUTSIDE, kind -> x.as(1, kind));
        check.refused("UNKNOWN ahead of OUTSIDE", x, () -> x.as(2, 6), UNKNOWN);
        WithEyesBound y = new WithEyesBound();
        check.refused("without a RING", y, () -> y.as(0, 6), UNKNOWN);
    }

    @Sentence(promise = 21, says = "what = 0 KIND, 1 the CELL told, 2 SIZE, 3 CLOTH, 4 GIGGLE. UNKNOWN; OUTSIDE.")
    private static void aboutRefusals() {
        WithEyesBound x = Check.withRing(FOUR);
        x.player(5, 1, 7, 2, 3);
        check.due("the least", x.about(0, 0), 5);
        check.due("the most", x.about(0, 4), 3);
        x.game(3, 0, 0, 0, 50, 0);
        x.stand(0, 3, 0, 0, 50, 9);
        check.due("the CELL told, not that of a GAME", x.about(0, 1), 1);
        check.refusedBeyond("player", x, 0, 0, UNKNOWN, player -> x.about(player, 0));
        check.refusedBeyond("what", x, 0, 4, OUTSIDE, what -> x.about(0, what));
        check.refused("UNKNOWN ahead of OUTSIDE", x, () -> x.about(1, 5), UNKNOWN);
        WithEyesBound y = new WithEyesBound();
        check.refused("without a RING", y, () -> y.about(0, 5), UNKNOWN);
    }

    @Sentence(promise = 22, says = "A PLAYER is told in another CELL: in which it was.")
    private static void moveTellsWhere() {
        WithEyesBound x = with(WIDE, PLAYER, 0);
        check.due("from the first to the last", x.move(0, 35), 0);
        check.due("from the last to the first", x.move(0, 0), 35);
        check.due("to where it is", x.move(0, 0), 0);
        check.due("it is there", x.about(0, 1), 0);
    }

    @Sentence(promise = 22, says = "UNKNOWN: player, cell (one that is not FREE, too)")
    private static void moveUnknown() {
        WithEyesBound x = with(".b/px", PLAYER, 0);
        check.refusedBeyond("player", x, 0, 0, UNKNOWN, player -> x.move(player, 1));
        check.refusedBeyond("cell", x, 0, 3, UNKNOWN, cell -> x.move(0, cell));
        check.refused("a POST", x, () -> x.move(0, 2), UNKNOWN);
        check.refused("an OUTSIDE one", x, () -> x.move(0, 3), UNKNOWN);
        check.due("a BOARD", x.move(0, 1), 0);
        WithEyesBound y = new WithEyesBound();
        check.refused("without a RING", y, () -> y.move(0, 0), UNKNOWN);
    }

    // ---- 23 game

    @Sentence(promise = 23, says = "A GAME for n TENTHS (1 to 200)")
    private static void gameOfTenths() {
        WithEyesBound x = Check.withRing(FOUR);
        check.refusedBeyond("n", x, 1, 200, OUTSIDE, n -> x.game(0, 0, 0, 0, n, 0));
        check.taken("n", 1, 200, n -> x.game(0, 0, 0, 0, n, 0));
        check.due("one TENTH", x.game(0, 1, 0, 0, 1, CELL), 1);
        // To and at each corner: eight TENTHS about four CELLS.
        for (int n = 193; n <= 200; n++) {
            check.due(n + " TENTHS", x.game(0, 1, 0, 0, n, CELL), x.game(0, 1, 0, 0, n - 192, CELL));
        }
    }

    @Sentence(promise = 23, says = "what = 0 who is touched (NONE), 1 in which TENTH (n, if nobody is)")
    private static void gameWithoutATouch() {
        WithEyesBound x = Check.withRing(FOUR);
        for (int n : new int[] {1, 2, 199, 200}) {
            check.due("no PLAYERS, who", x.game(0, 1, 9, 7, n, TOUCHED), NONE);
            check.due("no PLAYERS, when", x.game(0, 1, 9, 7, n, TENTH), n);
        }
        WithEyesBound y = with("....../......", PLAYER, 5);
        check.due("a TENTH too late, who", y.game(0, 1, 0, 0, 4, TOUCHED), NONE);
        check.due("a TENTH too late, when", y.game(0, 1, 0, 0, 4, TENTH), 4);
        check.due("in the last TENTH, who", y.game(0, 1, 0, 0, 5, TOUCHED), 0);
        check.due("in the last TENTH, when", y.game(0, 1, 0, 0, 5, TENTH), 4);
    }

    @Sentence(promise = 23, says = "UNKNOWN: cell (one that is not FREE, too)")
    private static void gameUnknown() {
        WithEyesBound x = with(".b/px", PLAYER, 0);
        check.refusedBeyond("cell", x, 0, 3, UNKNOWN, cell -> x.game(cell, 0, 0, 0, 1, 0));
        check.refused("a POST", x, () -> x.game(2, 0, 0, 0, 1, 0), UNKNOWN);
        check.refused("an OUTSIDE one", x, () -> x.game(3, 0, 0, 0, 1, 0), UNKNOWN);
        check.refused("ahead of OUTSIDE", x, () -> x.game(2, 4, 10, -1, 0, 4), UNKNOWN);
        check.taken("cell", 0, 1, cell -> x.game(cell, 0, 0, 0, 1, 0));
        WithEyesBound y = new WithEyesBound();
        check.refused("without a RING", y, () -> y.game(0, 4, 10, -1, 0, 4), UNKNOWN);
    }

    @Sentence(promise = 23, says = "OUTSIDE: way, drift (0 to 9), seed (0 at least), n, what.")
    private static void gameOutside() {
        WithEyesBound x = with(FOUR, SMALL, 0);
        check.refusedBeyond("way", x, 0, 3, OUTSIDE, way -> x.game(0, way, 0, 0, 1, 0));
        check.refusedBeyond("drift", x, 0, 9, OUTSIDE, drift -> x.game(0, 0, drift, 0, 1, 0));
        check.refusedBeyond("n", x, 1, 200, OUTSIDE, n -> x.game(0, 0, 0, 0, n, 0));
        check.refusedBeyond("what", x, 0, 3, OUTSIDE, what -> x.game(0, 0, 0, 0, 1, what));
        for (int seed : new int[] {-1, -2, Integer.MIN_VALUE}) {
            check.refused("seed " + seed, x, () -> x.game(0, 0, 0, seed, 1, 0), OUTSIDE);
        }
        check.taken("way", 0, 3, way -> x.game(0, way, 0, 0, 1, 0));
        check.taken("drift", 0, 9, drift -> x.game(0, 0, drift, 0, 1, 0));
        check.taken("seed", 0, GREATEST, seed -> x.game(0, 0, 0, seed, 1, 0));
        check.taken("what", 0, 3, what -> x.game(0, 0, 0, 0, 1, what));
    }

    // ---- 24 lasts

    @Sentence(promise = 24, says = "UNKNOWN: cell;")
    private static void lastsUnknown() {
        WithEyesBound x = with(".b/px", PLAYER, 0);
        check.refusedBeyond("cell", x, 0, 3, UNKNOWN, cell -> x.lasts(cell, 0, 0, 1, 1));
        check.refused("a POST", x, () -> x.lasts(2, 0, 0, 1, 1), UNKNOWN);
        check.refused("an OUTSIDE one", x, () -> x.lasts(3, 0, 0, 1, 1), UNKNOWN);
        check.refused("ahead of OUTSIDE", x, () -> x.lasts(4, 4, 10, 0, 0), UNKNOWN);
        WithEyesBound y = new WithEyesBound();
        check.refused("without a RING", y, () -> y.lasts(0, 4, 10, 0, 0), UNKNOWN);
    }

    @Sentence(promise = 24, says = "OUTSIDE: way, drift, n (1 to 200), m (1 to 20).")
    private static void lastsOutside() {
        WithEyesBound x = with(FOUR, SMALL, 0);
        check.refusedBeyond("way", x, 0, 3, OUTSIDE, way -> x.lasts(0, way, 0, 1, 1));
        check.refusedBeyond("drift", x, 0, 9, OUTSIDE, drift -> x.lasts(0, 0, drift, 1, 1));
        check.refusedBeyond("n", x, 1, 200, OUTSIDE, n -> x.lasts(0, 0, 0, n, 1));
        check.refusedBeyond("m", x, 1, 20, OUTSIDE, m -> x.lasts(0, 0, 0, 1, m));
        check.taken("way", 0, 3, way -> x.lasts(0, way, 0, 1, 1));
        check.taken("drift", 0, 9, drift -> x.lasts(0, 0, drift, 1, 1));
        check.taken("n", 1, 200, n -> x.lasts(0, 0, 0, n, 1));
        check.taken("m", 1, 20, m -> x.lasts(0, 0, 0, 1, m));
    }

    // ---- 25 stand

    @Sentence(promise = 25, says = "UNKNOWN: player, cell;")
    private static void standUnknown() {
        WithEyesBound x = with(".b/px", PLAYER, 0);
        check.refusedBeyond("player", x, 0, 0, UNKNOWN, player -> x.stand(player, 0, 0, 0, 1, 1));
        check.refusedBeyond("cell", x, 0, 3, UNKNOWN, cell -> x.stand(0, cell, 0, 0, 1, 1));
        check.refused("a POST", x, () -> x.stand(0, 2, 0, 0, 1, 1), UNKNOWN);
        check.refused("an OUTSIDE one", x, () -> x.stand(0, 3, 0, 0, 1, 1), UNKNOWN);
        check.refused("player, ahead of OUTSIDE", x, () -> x.stand(1, 0, 4, 10, 0, 0), UNKNOWN);
        check.refused("cell, ahead of OUTSIDE", x, () -> x.stand(0, 4, 4, 10, 0, 0), UNKNOWN);
        check.due("refusals are not counted", x.count(7), 0);
        WithEyesBound y = new WithEyesBound();
        check.refused("without a RING", y, () -> y.stand(0, 0, 4, 10, 0, 0), UNKNOWN);
    }

    @Sentence(promise = 25, says = "OUTSIDE: way, drift, n (1 to 50), m (1 to 9)")
    private static void standOutside() {
        WithEyesBound x = with(FOUR, SMALL, 0);
        check.refusedBeyond("way", x, 0, 3, OUTSIDE, way -> x.stand(0, 0, way, 0, 1, 1));
        check.refusedBeyond("drift", x, 0, 9, OUTSIDE, drift -> x.stand(0, 0, 0, drift, 1, 1));
        check.refusedBeyond("n", x, 1, 50, OUTSIDE, n -> x.stand(0, 0, 0, 0, n, 1));
        check.refusedBeyond("m", x, 1, 9, OUTSIDE, m -> x.stand(0, 0, 0, 0, 1, m));
        check.due("refusals are not counted", x.count(7), 0);
        check.taken("way", 0, 3, way -> x.stand(0, 0, way, 0, 1, 1));
        check.taken("drift", 0, 9, drift -> x.stand(0, 0, 0, drift, 1, 1));
        check.taken("n", 1, 50, n -> x.stand(0, 0, 0, 0, n, 1));
        check.taken("m", 1, 9, m -> x.stand(0, 0, 0, 0, 1, m));
        check.due("what is taken is counted", x.count(7), 8);
    }

    @Sentence(promise = 25, says = "STATE: stand() was done 20 times ever")
    private static void standTwentyTimes() {
        WithEyesBound x = with(FOUR, PLAYER, 0);
        for (int done = 1; done <= 20; done++) {
            check.due("time " + done, x.stand(0, 0, 1, 0, 1, 1), 0);
            check.due("count(7)", x.count(7), done);
        }
        for (int i = 0; i < 3; i++) {
            check.refused("once more", x, () -> x.stand(0, 0, 1, 0, 1, 1), STATE);
        }
        check.refused("behind UNKNOWN", x, () -> x.stand(1, 0, 1, 0, 1, 1), UNKNOWN);
        check.refused("behind OUTSIDE", x, () -> x.stand(0, 0, 1, 0, 51, 1), OUTSIDE);
        check.due("count(7) stays", x.count(7), 20);
        check.due("other objects count for themselves", with(FOUR, PLAYER, 0).stand(0, 0, 1, 0, 1, 1), 0);
    }

    @Sentence(promise = 25, says = "(it counts on, whatever is read or restored)")
    private static void standCountsOn() {
        WithEyesBound x = with(FOUR, PLAYER, 0);
        x.image();
        for (int done = 1; done <= 10; done++) {
            x.stand(0, 0, 1, 0, 1, 1);
        }
        x.restore();
        check.due("restored", x.count(7), 10);
        Check.readRing(x, FOUR);
        check.due("read", x.count(7), 10);
        add(x, PLAYER, 0);
        for (int done = 11; done <= 20; done++) {
            check.due("time " + done, x.stand(0, 0, 1, 0, 1, 1), 0);
        }
        x.image();
        x.restore();
        check.refused("behind a restore()", x, () -> x.stand(0, 0, 1, 0, 1, 1), STATE);
        Check.readRing(x, FOUR);
        add(x, PLAYER, 0);
        check.refused("behind a ring()", x, () -> x.stand(0, 0, 1, 0, 1, 1), STATE);
    }
}
