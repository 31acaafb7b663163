import java.math.BigInteger;

/** Promises 7 to 18 and HIS ODDS: a test for each sentence that names a boundary case. */
public final class OddsBoundaryTest {
    private static final int UNKNOWN = Check.UNKNOWN, OUTSIDE = Check.OUTSIDE, STATE = Check.STATE, FULL = Check.FULL;
    private static final long NO_POST = -1000000000000000001L, POST_OUTSIDE = -1000000000000000002L,
        POST_STATE = -1000000000000000003L;
    private static final String FOUR = "../..";
    private static final String NINE = ".../.../...";
    private static final String WIDE = "....../....../....../....../....../......";
    /** From the middle of NINE: the CELL that lies up, right, down, left. */
    private static final int[] ABOUT_FOUR = {1, 5, 7, 3};
    private static final Check check = new Check();

    public static void main(String[] args) throws Exception {
        Sentences.testEach(OddsBoundaryTest.class, check);
    }

    private static void fraction(String what, Check.CallWith parts, long above, long below) {
        check.due(what + ", above", parts.answer(0), above);
        check.due(what + ", below", parts.answer(1), below);
    }

    private static void oddsAre(String what, WithEyesBound x, int cell, long above, long below) {
        fraction(what + ": odds of CELL " + cell, part -> x.odds(cell, part), above, below);
    }

    private static void wayIs(String what, WithEyesBound x, int way, long above, long below) {
        fraction(what + ": odds of WAY " + way, part -> x.ways(way, part), above, below);
    }

    private static void weightsAre(String what, WithEyesBound x, long... weights) {
        check.due(what + ": digest() of the weights", x.digest(), Told.weights(weights).digestOf(x));
    }

    private static WithEyesBound setIn(String ring, int cell, int way) {
        WithEyesBound x = Check.withRing(ring);
        x.set(cell, way);
        return x;
    }

    private static WithEyesBound afterUpdates(String ring, int updates) {
        WithEyesBound x = Check.withRing(ring);
        Check.turnTimes(x, updates);
        return x;
    }

    // ---- what the terms say

    @Sentence(promise = 0, says = "of each FREE CELL and WAY a weight")
    private static void justFreeCells() {
        weightsAre("one FREE CELL", Check.withRing("px/x."), 0, 0, 0, 0, 0, 0, 0, 0, 0, 0, 0, 0, 1, 1, 1, 1);
        weightsAre("a FLOOR, a BOARD", Check.withRing(".p/xb"), 1, 1, 1, 1, 0, 0, 0, 0, 0, 0, 0, 0, 1, 1, 1, 1);
    }

    @Sentence(promise = 0, says = "SET: one CELL and WAY 1, all else 0")
    private static void setOne() {
        WithEyesBound x = Check.withRing(FOUR);
        for (int cell : new int[] {0, 3}) {
            for (int way : new int[] {0, 3}) {
                long[] weights = new long[16];
                weights[4 * cell + way] = 1;
                x.set(cell, way);
                weightsAre("set(" + cell + ", " + way + ")", x, weights);
            }
        }
    }

    @Sentence(promise = 0, says = "LOST: each one 1")
    private static void lostEachOne() {
        WithEyesBound x = setIn(FOUR, 3, 3);
        Check.turnTimes(x, 9);
        x.lost();
        weightsAre("lost()", x, 1, 1, 1, 1, 1, 1, 1, 1, 1, 1, 1, 1, 1, 1, 1, 1);
    }

    @Sentence(promise = 0, says = "TURNED by a (0 to 5): he looks a tenths to the left of that, a to the right, else as he did")
    private static void turnedByLeastAndMost() {
        for (int way = 0; way < 4; way++) {
            int left = (way + 3) % 4;
            int right = (way + 1) % 4;
            int behind = (way + 2) % 4;
            WithEyesBound x = setIn(FOUR, 0, way);
            check.due("by 0", x.turned(0), 1);
            wayIs("by 0", x, way, 1, 1);
            x.set(0, way);
            check.due("by 1", x.turned(1), 3);
            wayIs("by 1, as he did", x, way, 4, 5);
            wayIs("by 1, left", x, left, 1, 10);
            wayIs("by 1, right", x, right, 1, 10);
            wayIs("by 1, behind", x, behind, 0, 1);
            x.set(0, way);
            check.due("by 5", x.turned(5), 2);
            wayIs("by 5, as he did", x, way, 0, 1);
            wayIs("by 5, left", x, left, 1, 2);
            wayIs("by 5, right", x, right, 1, 2);
        }
    }

    @Sentence(promise = 0, says = "with DRIFT tenths he looks to the left first, with as many to the right, else not")
    private static void driftLeastAndMost() {
        for (int way = 0; way < 4; way++) {
            int ahead = ABOUT_FOUR[way];
            int left = ABOUT_FOUR[(way + 3) % 4];
            int right = ABOUT_FOUR[(way + 1) % 4];
            WithEyesBound x = setIn(NINE, 4, way);
            check.due("DRIFT 0", x.step(0, 0), 1);
            oddsAre("DRIFT 0", x, ahead, 1, 1);
            wayIs("DRIFT 0", x, way, 1, 1);
            x.set(4, way);
            check.due("DRIFT 1", x.step(1, 0), 3);
            oddsAre("DRIFT 1, ahead", x, ahead, 4, 5);
            oddsAre("DRIFT 1, left", x, left, 1, 10);
            oddsAre("DRIFT 1, right", x, right, 1, 10);
            x.set(4, way);
            check.due("DRIFT 5", x.step(5, 0), 2);
            oddsAre("DRIFT 5, ahead", x, ahead, 0, 1);
            oddsAre("DRIFT 5, left", x, left, 1, 2);
            oddsAre("DRIFT 5, right", x, right, 1, 2);
            wayIs("DRIFT 5, he looks right then", x, (way + 1) % 4, 1, 2);
        }
    }

    @Sentence(promise = 0, says = "then he goes a CELL that WAY, if it is FREE, else he stays")
    private static void elseHeStays() {
        String[] rings = {"x.x/.../x.x", "p.p/.../p.p"};
        int[][] shut = {{1, 1}, {1, 3}, {3, 0}, {3, 2}, {5, 0}, {5, 2}, {7, 1}, {7, 3}};
        for (int which = 0; which < 2; which++) {
            int felt = which == 0 ? 1 : 2;
            for (int[] from : shut) {
                WithEyesBound x = setIn(rings[which], from[0], from[1]);
                check.due("shut from " + from[0] + " to " + from[1], x.step(0, felt), 1);
                oddsAre("he stays", x, from[0], 1, 1);
                wayIs("he looks so then", x, from[1], 1, 1);
            }
            for (int way = 0; way < 4; way++) {
                WithEyesBound x = setIn(rings[which], ABOUT_FOUR[way], (way + 2) % 4);
                check.due("free from " + ABOUT_FOUR[way], x.step(0, 0), 1);
                oddsAre("he goes one CELL, not two", x, 4, 1, 1);
            }
        }
    }

    @Sentence(promise = 0, says = "3 a BOARD (of the CELL to which he went)")
    private static void boardToWhichHeWent() {
        WithEyesBound x = setIn("b./..", 0, 1);
        check.refused("from a BOARD to FLOOR", x, () -> x.step(0, 3), STATE);
        check.due("that is FLOOR", x.step(0, 0), 1);
        oddsAre("he is there", x, 1, 1, 1);
        x.set(1, 3);
        check.refused("from FLOOR to a BOARD", x, () -> x.step(0, 0), STATE);
        check.due("that is a BOARD", x.step(0, 3), 1);
        oddsAre("he is there", x, 0, 1, 1);
        x.set(0, 0);
        check.refused("on a BOARD, ahead the ROPE", x, () -> x.step(0, 3), STATE);
        check.due("that is the ROPE", x.step(0, 1), 1);
    }

    @Sentence(promise = 0, says = "1 the ROPE (it is OUTSIDE), 2 a POST")
    private static void ropeAndPost() {
        WithEyesBound x = setIn(".x/p.", 0, 1);
        check.refused("an OUTSIDE one is no POST", x, () -> x.step(0, 2), STATE);
        check.due("it is the ROPE", x.step(0, 1), 1);
        x.set(0, 2);
        check.refused("a POST is no ROPE", x, () -> x.step(0, 1), STATE);
        check.due("it is a POST", x.step(0, 2), 1);
        x.set(0, 0);
        check.refused("what is beyond is no POST", x, () -> x.step(0, 2), STATE);
        check.due("it is the ROPE, too", x.step(0, 1), 1);
    }

    @Sentence(promise = 0, says = "just what agrees stays")
    private static void whatAgrees() {
        WithEyesBound x = Check.withRing(".b/px");
        // From 0: ROPE up and left, BOARD right, POST down; from 1: ROPE up, right, down, FLOOR left.
        int[] left = {1, 5, 1, 1};
        for (int felt = 0; felt <= 3; felt++) {
            x.lost();
            check.due("felt " + felt, x.step(0, felt), left[felt]);
        }
        x.lost();
        x.step(0, 1);
        weightsAre("the ROPE", x, 1, 0, 0, 1, 1, 1, 1, 0, 0, 0, 0, 0, 0, 0, 0, 0);
    }

    @Sentence(promise = 0, says = "right in r tenths (0 to 10): each weight by 6 times r, if it lies so, else by twice what r lacks of 10")
    private static void heardLeastAndMost() {
        WithEyesBound x = Check.withRing(FOUR);
        check.due("r 0", x.heard(0, 0, 0), 13);
        weightsAre("r 0", x, 3, 3, 3, 3, 4, 4, 4, 0, 0, 4, 4, 4, 0, 4, 4, 4);
        x.lost();
        check.due("r 1", x.heard(0, 0, 1), 16);
        weightsAre("r 1", x, 5, 5, 5, 5, 6, 6, 6, 2, 2, 6, 6, 6, 2, 6, 6, 6);
        x.lost();
        check.due("r 9", x.heard(0, 0, 9), 16);
        weightsAre("r 9", x, 15, 15, 15, 15, 2, 2, 2, 54, 54, 2, 2, 2, 54, 2, 2, 2);
        x.lost();
        check.due("r 10", x.heard(0, 0, 10), 7);
        weightsAre("r 10", x, 1, 1, 1, 1, 0, 0, 0, 4, 4, 0, 0, 0, 4, 0, 0, 0);
    }

    @Sentence(promise = 0, says = "in his own CELL by 15")
    private static void heardInHisOwnCell() {
        WithEyesBound x = setIn(FOUR, 2, 1);
        for (int from = 0; from < 4; from++) {
            for (int right : new int[] {0, 10}) {
                x.set(2, 1);
                check.due("heard from " + from + ", right in " + right, x.heard(2, from, right), 1);
            }
        }
        x.set(0, 1);
        x.step(1, 0);
        // Eight to one in 1 and 2: a call from 1, where it is as likely from all sides, else never so.
        check.due("never right", x.heard(1, 3, 0), 2);
        oddsAre("15 by 8 to 20 by 1", x, 1, 6, 7);
    }

    @Sentence(promise = 0, says = "up (down), if its ROW is as many above (below) his as its column is beside or more; else right (left)")
    private static void whereItLies() {
        int[][] sides = {
            {-1, -1, 0}, {-1, 1, 0}, {-2, -1, 0}, {-2, 1, 0}, {-1, 0, 0}, {-2, 2, 0}, {-2, -2, 0},
            {1, -1, 2}, {1, 1, 2}, {2, -1, 2}, {2, 1, 2}, {1, 0, 2}, {2, 2, 2}, {2, -2, 2},
            {-1, 2, 1}, {1, 2, 1}, {0, 1, 1}, {0, 2, 1}, {-1, -2, 3}, {1, -2, 3}, {0, -1, 3}, {0, -2, 3}};
        WithEyesBound x = Check.withRing("...../...../...../...../.....");
        for (int[] side : sides) {
            int cell = 12 + 5 * side[0] + side[1];
            for (int from = 0; from < 4; from++) {
                x.set(12, 0);
                check.due(side[0] + " down, " + side[1] + " right, heard from " + from, x.heard(cell, from, 10),
                    from == side[2] ? 1 : STATE);
            }
        }
    }

    @Sentence(promise = 0, says = "Weights are kept as the least whole numbers (as lowest terms of all)")
    private static void leastWholeNumbers() {
        WithEyesBound x = setIn(FOUR, 0, 0);
        x.turned(0);
        weightsAre("10 of 10", x, 1, 0, 0, 0, 0, 0, 0, 0, 0, 0, 0, 0, 0, 0, 0, 0);
        x.turned(5);
        weightsAre("5 and 5", x, 0, 1, 0, 1, 0, 0, 0, 0, 0, 0, 0, 0, 0, 0, 0, 0);
        x.set(0, 0);
        x.turned(2);
        weightsAre("2, 6, 2", x, 3, 1, 0, 1, 0, 0, 0, 0, 0, 0, 0, 0, 0, 0, 0, 0);
        x.heard(0, 0, 5);
        weightsAre("each by 15", x, 3, 1, 0, 1, 0, 0, 0, 0, 0, 0, 0, 0, 0, 0, 0, 0);
        x.set(0, 1);
        x.step(2, 0);
        weightsAre("6 and 2", x, 0, 0, 0, 0, 0, 3, 0, 0, 0, 0, 1, 0, 0, 0, 0, 0);
        x.heard(0, 2, 10);
        weightsAre("each by 60", x, 0, 0, 0, 0, 0, 3, 0, 0, 0, 0, 1, 0, 0, 0, 0, 0);
        // Right of 1 and of 2 alike; just one of both stays, and its 3 is 1 then.
        x.step(0, 1);
        weightsAre("both at the ROPE", x, 0, 0, 0, 0, 0, 3, 0, 0, 0, 0, 1, 0, 0, 0, 0, 0);
        x.heard(3, 1, 10);
        weightsAre("one of both", x, 0, 0, 0, 0, 0, 1, 0, 0, 0, 0, 0, 0, 0, 0, 0, 0);
        x.lost();
        x.heard(3, 0, 9);
        weightsAre("even ones, but for the last", x, 2, 2, 54, 2, 2, 2, 54, 2, 2, 54, 2, 2, 15, 15, 15, 15);
    }

    private static BigInteger power(int base, int exponent) {
        return BigInteger.valueOf(base).pow(exponent);
    }

    @Sentence(promise = 0, says = "TURNED, STEP, HEARD are UPDATES: nine at most since SET, LOST.")
    private static void nineUpdatesOfGreatestWeights() {
        WithEyesBound x = Check.withRing(WIDE);
        for (int i = 1; i <= 9; i++) {
            check.due("call " + i, x.heard(0, 0, 9), 144);
        }
        check.refused("the tenth", x, () -> x.heard(0, 0, 9), FULL);
        long own = power(15, 9).longValueExact();
        long ahead = power(54, 9).longValueExact();
        long else_ = power(2, 9).longValueExact();
        long elsewhere = ahead + 3 * else_;
        BigInteger all = BigInteger.valueOf(4 * own).add(BigInteger.valueOf(elsewhere).multiply(BigInteger.valueOf(35)));
        long divisor = all.gcd(BigInteger.valueOf(4 * own)).longValueExact();
        oddsAre("nine calls", x, 0, 4 * own / divisor, all.longValueExact() / divisor);
        long other = all.gcd(BigInteger.valueOf(elsewhere)).longValueExact();
        oddsAre("nine calls", x, 35, elsewhere / other, all.longValueExact() / other);
        check.due("the likeliest", x.likeliest(), 1);
        long[] weights = new long[144];
        for (int place = 0; place < 144; place++) {
            int cell = place / 4;
            int lies = cell / 6 >= cell % 6 ? 0 : 3;
            weights[place] = cell == 0 ? own : place % 4 == lies ? ahead : else_;
        }
        weightsAre("nine calls", x, weights);
    }

    @Sentence(promise = 0, says = "nine at most since SET, LOST")
    private static void countedSinceSetAndLost() {
        WithEyesBound x = afterUpdates(FOUR, 9);
        check.due("nine", x.count(3), 9);
        x.set(0, 0);
        check.due("behind SET", x.count(3), 0);
        Check.turnTimes(x, 9);
        check.refused("the tenth behind SET", x, () -> x.turned(0), FULL);
        x.lost();
        check.due("behind LOST", x.count(3), 0);
        Check.turnTimes(x, 9);
        check.refused("the tenth behind LOST", x, () -> x.turned(0), FULL);
        Check.readRing(x, FOUR);
        Check.turnTimes(x, 9);
        check.refused("the tenth behind a RING", x, () -> x.turned(0), FULL);
    }

    @Sentence(promise = 0, says = "1 a turn to the left (sure), then a STEP, 2 to the right, then a STEP")
    private static void turnsWrapAround() {
        // About 4: up FLOOR, right FLOOR, down a POST, left a BOARD; 9 of 10 where up and right cannot be told apart.
        WithEyesBound x = Check.withRing("x.x/b../xpx");
        long[][] tenths = {{9, 10, 9}, {9, 9, 10}, {10, 9, 10}, {10, 10, 9}};
        for (int way = 0; way < 4; way++) {
            for (int doing = 0; doing <= 2; doing++) {
                int done = doing;
                x.set(4, way);
                long due = tenths[way][doing];
                fraction("doing " + doing + " looking " + way, part -> x.expected(done, 1, 0, 0, part),
                    due == 10 ? 1 : due, due == 10 ? 1 : 10);
            }
        }
    }

    @Sentence(promise = 0, says = "NEXT: the doing of greatest EXPECTED, of like ones the least.")
    private static void nextOfLikeOnes() {
        WithEyesBound x = setIn("x.x/b../xpx", 4, 0);
        check.due("a turn to the left and a call alike", x.next(1, 4, 5), 1);
        x.set(4, 1);
        check.due("a turn to the right and a call alike", x.next(1, 4, 5), 2);
        x.set(4, 2);
        check.due("all but the turn to the left alike", x.next(1, 4, 5), 0);
        WithEyesBound y = setIn(NINE, 4, 0);
        check.due("just a call", y.next(1, 4, 5), 3);
        check.due("all alike", y.next(0, 4, 5), 0);
    }

    @Sentence(promise = 0, says = "if the POST was OUTSIDE (he feels the ROPE there)")
    private static void justThatPost() {
        // In 1 looking right (8 of 9) and in 3 looking down, each with a POST ahead: told apart, if one is the ROPE.
        WithEyesBound x = setIn("..p/..x/pxx", 0, 1);
        x.step(1, 0);
        fraction("a POST where another is", part -> x.post(2, 0, part), -1, 9);
        fraction("the other one", part -> x.post(6, 0, part), -1, 9);
        // With the ROPE ahead of 3, the POST alone tells.
        WithEyesBound y = setIn("..p/..x/xxx", 0, 1);
        y.step(1, 0);
        fraction("the only POST", part -> y.post(2, 0, part), 1, 9);
        WithEyesBound z = setIn("..x/..x/xxp", 0, 1);
        z.step(1, 0);
        fraction("a POST that he does not meet", part -> z.post(8, 0, part), 0, 1);
    }

    // ---- 7 set, 8 lost

    @Sentence(promise = 7, says = "SET: 1.")
    private static void setAnswersOne() {
        WithEyesBound x = Check.withRing(WIDE);
        check.taken("cell", 0, 35, cell -> x.set(cell, 0));
        check.taken("way", 0, 3, way -> x.set(0, way));
        check.due("the last CELL and WAY", x.set(35, 3), 1);
        check.due("the same once more", x.set(35, 3), 1);
    }

    @Sentence(promise = 7, says = "UNKNOWN: cell (one that is not FREE, too)")
    private static void setUnknown() {
        WithEyesBound x = setIn(".b/px", 1, 2);
        Check.turnTimes(x, 2);
        check.refusedBeyond("cell", x, 0, 3, UNKNOWN, cell -> x.set(cell, 0));
        check.refused("a POST", x, () -> x.set(2, 0), UNKNOWN);
        check.refused("an OUTSIDE one", x, () -> x.set(3, 0), UNKNOWN);
        check.refused("ahead of OUTSIDE", x, () -> x.set(2, 4), UNKNOWN);
        WithEyesBound y = new WithEyesBound();
        check.refused("without a RING", y, () -> y.set(0, 4), UNKNOWN);
    }

    @Sentence(promise = 7, says = "OUTSIDE: way")
    private static void setOutside() {
        WithEyesBound x = setIn(".b/px", 1, 2);
        Check.turnTimes(x, 2);
        check.refusedBeyond("way", x, 0, 3, OUTSIDE, way -> x.set(0, way));
    }

    @Sentence(promise = 8, says = "how many weights there are")
    private static void lostTellsHowMany() {
        check.due("one FREE CELL", Check.withRing("px/x.").lost(), 4);
        check.due("36 FREE CELLS", Check.withRing(WIDE).lost(), 144);
        check.due("two of four", Check.withRing(".p/xb").lost(), 8);
    }

    @Sentence(promise = 8, says = "STATE.")
    private static void lostWithoutRing() {
        WithEyesBound x = new WithEyesBound();
        check.refused("lost()", x, x::lost, STATE);
        Check.write(x, FOUR);
        check.refused("lost() with a PAGE alone", x, x::lost, STATE);
    }

    // ---- 9 turned

    @Sentence(promise = 9, says = "STATE; OUTSIDE; FULL")
    private static void turnedRefusals() {
        WithEyesBound none = new WithEyesBound();
        check.refused("without a RING", none, () -> none.turned(0), STATE);
        check.refused("without a RING, ahead of OUTSIDE", none, () -> none.turned(6), STATE);
        WithEyesBound x = afterUpdates(FOUR, 3);
        check.refusedBeyond("a", x, 0, 5, OUTSIDE, x::turned);
        check.taken("a", 0, 5, x::turned);
        WithEyesBound y = afterUpdates(FOUR, 9);
        check.refused("OUTSIDE ahead of FULL, below", y, () -> y.turned(-1), OUTSIDE);
        check.refused("OUTSIDE ahead of FULL, above", y, () -> y.turned(6), OUTSIDE);
    }

    @Sentence(promise = 9, says = "FULL: nine UPDATES were.")
    private static void turnedFull() {
        WithEyesBound x = afterUpdates(FOUR, 8);
        check.due("the ninth", x.turned(0), 16);
        check.due("nine were", x.count(3), 9);
        for (int a = 0; a <= 5; a++) {
            int by = a;
            check.refused("the tenth by " + a, x, () -> x.turned(by), FULL);
        }
    }

    // ---- 10 step

    @Sentence(promise = 10, says = "OUTSIDE: drift, felt")
    private static void stepOutside() {
        WithEyesBound x = Check.withRing(".b/p.");
        check.refusedBeyond("drift", x, 0, 5, OUTSIDE, drift -> x.step(drift, 0));
        check.refusedBeyond("felt", x, 0, 3, OUTSIDE, felt -> x.step(0, felt));
        // FLOOR is met from 1, to the left and down; the BOARD from 0 and 3.
        for (int drift : new int[] {0, 5}) {
            for (int felt : new int[] {0, 3}) {
                x.lost();
                check.due("drift " + drift + ", felt " + felt, x.step(drift, felt), 2);
            }
        }
    }

    @Sentence(promise = 10, says = "STATE; OUTSIDE: drift, felt")
    private static void stepWithoutRing() {
        WithEyesBound x = new WithEyesBound();
        for (int felt = 0; felt <= 3; felt++) {
            int so = felt;
            check.refused("felt " + felt, x, () -> x.step(0, so), STATE);
        }
        check.refused("ahead of OUTSIDE: drift", x, () -> x.step(6, 0), STATE);
        check.refused("ahead of OUTSIDE: felt", x, () -> x.step(0, 4), STATE);
    }

    @Sentence(promise = 10, says = "FULL;")
    private static void stepFull() {
        WithEyesBound x = afterUpdates(FOUR, 8);
        check.due("the ninth", x.step(0, 0), 8);
        check.refused("the tenth", x, () -> x.step(0, 0), FULL);
        check.refused("ahead of what cannot be", x, () -> x.step(0, 2), FULL);
        check.refused("behind OUTSIDE, drift", x, () -> x.step(6, 0), OUTSIDE);
        check.refused("behind OUTSIDE, felt", x, () -> x.step(0, 4), OUTSIDE);
    }

    @Sentence(promise = 10, says = "STATE: it cannot be.")
    private static void stepCannotBe() {
        WithEyesBound x = Check.withRing(FOUR);
        Check.turnTimes(x, 8);
        check.refused("no POST", x, () -> x.step(5, 2), STATE);
        check.refused("no BOARD", x, () -> x.step(5, 3), STATE);
        check.due("it was no UPDATE", x.count(3), 8);
        check.due("the ROPE can be", x.step(0, 1), 8);
        WithEyesBound y = Check.withRing(".x/xx");
        check.refused("no FLOOR", y, () -> y.step(5, 0), STATE);
        WithEyesBound z = setIn(NINE, 4, 0);
        check.refused("no ROPE from the middle", z, () -> z.step(5, 1), STATE);
        WithEyesBound w = setIn("x.x/b../xpx", 4, 1);
        check.refused("DRIFT 5 never goes ahead, and behind is no way", w, () -> w.step(5, 3), STATE);
        check.refused("DRIFT 0 never goes aside", w, () -> w.step(0, 2), STATE);
        check.due("DRIFT 1 may", w.step(1, 2), 1);
    }

    // ---- 11 heard

    @Sentence(promise = 11, says = "UNKNOWN: cell (one that is not FREE, too)")
    private static void heardUnknown() {
        WithEyesBound x = Check.withRing(".b/px");
        check.refusedBeyond("cell", x, 0, 3, UNKNOWN, cell -> x.heard(cell, 0, 5));
        check.refused("a POST", x, () -> x.heard(2, 0, 5), UNKNOWN);
        check.refused("an OUTSIDE one", x, () -> x.heard(3, 0, 5), UNKNOWN);
        check.taken("cell", 0, 1, cell -> x.heard(cell, 0, 5));
        Check.turnTimes(x, 7);
        check.refused("ahead of OUTSIDE and FULL", x, () -> x.heard(2, 4, 11), UNKNOWN);
        WithEyesBound y = new WithEyesBound();
        check.refused("without a RING", y, () -> y.heard(0, 4, 11), UNKNOWN);
    }

    @Sentence(promise = 11, says = "OUTSIDE: from, right")
    private static void heardOutside() {
        WithEyesBound x = Check.withRing(FOUR);
        check.refusedBeyond("from", x, 0, 3, OUTSIDE, from -> x.heard(0, from, 5));
        check.refusedBeyond("right", x, 0, 10, OUTSIDE, right -> x.heard(0, 0, right));
        check.taken("from", 0, 3, from -> x.heard(0, from, 5));
        check.taken("right", 0, 10, right -> x.heard(0, 0, right));
    }

    @Sentence(promise = 11, says = "FULL;")
    private static void heardFull() {
        WithEyesBound x = afterUpdates(FOUR, 8);
        check.due("the ninth", x.heard(0, 0, 5), 16);
        check.refused("the tenth", x, () -> x.heard(0, 0, 5), FULL);
        check.refused("the tenth, in his own CELL", x, () -> x.heard(3, 0, 0), FULL);
        check.refused("behind OUTSIDE, from", x, () -> x.heard(0, 4, 5), OUTSIDE);
        check.refused("behind OUTSIDE, right", x, () -> x.heard(0, 0, 11), OUTSIDE);
        WithEyesBound y = setIn(FOUR, 1, 3);
        for (int i = 0; i < 9; i++) {
            y.turned(0);
        }
        check.refused("ahead of what cannot be", y, () -> y.heard(0, 0, 0), FULL);
    }

    @Sentence(promise = 11, says = "STATE: it cannot be.")
    private static void heardCannotBe() {
        WithEyesBound x = setIn(FOUR, 1, 3);
        check.refused("never right, and it lies so", x, () -> x.heard(0, 0, 0), STATE);
        for (int from = 1; from < 4; from++) {
            int side = from;
            check.refused("always right, and it does not lie so: " + from, x, () -> x.heard(0, side, 10), STATE);
            check.due("never right, and it does not lie so: " + from, x.heard(0, from, 0), 1);
        }
        check.due("always right, and it lies so", x.heard(0, 0, 10), 1);
    }

    // ---- 12 odds, 13 ways

    @Sentence(promise = 12, says = "(all WAYS together), in lowest terms: part 0 above, 1 below")
    private static void oddsLowestTerms() {
        WithEyesBound x = Check.withRing(".b/px");
        oddsAre("4 of 8", x, 0, 1, 2);
        oddsAre("of a POST", x, 2, 0, 1);
        oddsAre("of an OUTSIDE one", x, 3, 0, 1);
        x.set(0, 0);
        oddsAre("all", x, 0, 1, 1);
        oddsAre("nothing", x, 1, 0, 1);
        oddsAre("one of 36", Check.withRing(WIDE), 35, 1, 36);
    }

    @Sentence(promise = 12, says = "UNKNOWN: cell; OUTSIDE.")
    private static void oddsRefusals() {
        WithEyesBound x = Check.withRing(".b/px");
        check.refusedBeyond("cell", x, 0, 3, UNKNOWN, cell -> x.odds(cell, 0));
        check.refusedBeyond("part", x, 0, 1, OUTSIDE, part -> x.odds(0, part));
        check.refused("UNKNOWN ahead of OUTSIDE", x, () -> x.odds(4, 2), UNKNOWN);
        WithEyesBound y = new WithEyesBound();
        check.refused("without a RING", y, () -> y.odds(0, 2), UNKNOWN);
    }

    @Sentence(promise = 13, says = "(all CELLS together), in lowest terms")
    private static void waysLowestTerms() {
        WithEyesBound x = Check.withRing(WIDE);
        for (int way = 0; way < 4; way++) {
            wayIs("LOST", x, way, 1, 4);
        }
        x.set(35, 3);
        wayIs("all", x, 3, 1, 1);
        wayIs("nothing", x, 0, 0, 1);
    }

    @Sentence(promise = 13, says = "STATE; OUTSIDE: way, part.")
    private static void waysRefusals() {
        WithEyesBound x = Check.withRing(FOUR);
        check.refusedBeyond("way", x, 0, 3, OUTSIDE, way -> x.ways(way, 0));
        check.refusedBeyond("part", x, 0, 1, OUTSIDE, part -> x.ways(0, part));
        WithEyesBound y = new WithEyesBound();
        check.refused("without a RING", y, () -> y.ways(0, 0), STATE);
        check.refused("without a RING, ahead of OUTSIDE", y, () -> y.ways(4, 2), STATE);
    }

    // ---- 14 likeliest, 15 knows

    @Sentence(promise = 14, says = "of like ones the least")
    private static void likeliestOfLikeOnes() {
        check.due("all alike", Check.withRing(WIDE).likeliest(), 0);
        check.due("the first is not FREE", Check.withRing("xp/.b").likeliest(), 2);
        check.due("just the last is FREE", Check.withRing("xp/xb").likeliest(), 3);
        WithEyesBound x = setIn(NINE, 4, 0);
        x.step(5, 0);
        check.due("3 and 5 alike", x.likeliest(), 3);
        x.set(8, 0);
        check.due("the last", x.likeliest(), 8);
        x.set(4, 0);
        x.step(1, 0);
        check.due("the greatest of three", x.likeliest(), 1);
        x.set(4, 2);
        x.step(1, 0);
        check.due("the greatest of three, the last", x.likeliest(), 7);
    }

    @Sentence(promise = 14, says = "STATE.")
    private static void likeliestWithoutRing() {
        WithEyesBound x = new WithEyesBound();
        check.refused("likeliest()", x, x::likeliest, STATE);
    }

    @Sentence(promise = 15, says = "KNOWS, in lowest terms")
    private static void knowsLowestTerms() {
        WithEyesBound x = Check.withRing(WIDE);
        fraction("least", x::knows, 1, 36);
        x.set(35, 0);
        fraction("sure", x::knows, 1, 1);
        fraction("one FREE CELL", Check.withRing("xp/xb")::knows, 1, 1);
        x.set(14, 0);
        x.step(5, 0);
        fraction("half", x::knows, 1, 2);
    }

    @Sentence(promise = 15, says = "STATE; OUTSIDE.")
    private static void knowsRefusals() {
        WithEyesBound x = Check.withRing(FOUR);
        check.refusedBeyond("part", x, 0, 1, OUTSIDE, x::knows);
        WithEyesBound y = new WithEyesBound();
        check.refused("without a RING", y, () -> y.knows(0), STATE);
        check.refused("without a RING, ahead of OUTSIDE", y, () -> y.knows(2), STATE);
    }

    // ---- 16 expected

    @Sentence(promise = 16, says = "EXPECTED, in lowest terms")
    private static void expectedLowestTerms() {
        WithEyesBound x = setIn(NINE, 4, 0);
        fraction("sure", part -> x.expected(0, 0, 0, 0, part), 1, 1);
        fraction("DRIFT 5", part -> x.expected(0, 5, 0, 0, part), 1, 2);
        fraction("8 of 10", part -> x.expected(0, 1, 0, 0, part), 4, 5);
        fraction("a call, never right", part -> x.expected(3, 0, 8, 0, part), 1, 1);
        fraction("LOST, a call", part -> Check.withRing(WIDE).expected(3, 0, 35, 5, part), 1, 36);
        // Down to 3, ahead to 0, up the ROPE: the FLOOR of 0 and 3 cannot be told apart.
        WithEyesBound corner = setIn(FOUR, 1, 3);
        fraction("to the first CELL", part -> corner.expected(0, 1, 0, 0, part), 9, 10);
        WithEyesBound y = Check.withRing(WIDE);
        for (int i = 0; i < 7; i++) {
            y.heard(0, 0, 9);
        }
        // Of the greatest weights: a call like those before leaves the likeliest CELL as likely as it was.
        fraction("seven calls, then one more", part -> y.expected(3, 0, 0, 9, part), y.knows(0), y.knows(1));
    }

    @Sentence(promise = 16, says = "STATE; OUTSIDE: doing (0 to 3), drift, part")
    private static void expectedOutside() {
        WithEyesBound x = Check.withRing(FOUR);
        check.refusedBeyond("doing", x, 0, 3, OUTSIDE, doing -> x.expected(doing, 0, 0, 0, 0));
        check.taken("doing", 0, 3, doing -> x.expected(doing, 0, 0, 0, 0));
        for (int doing = 0; doing <= 3; doing++) {
            int done = doing;
            check.refusedBeyond("drift of " + doing, x, 0, 5, OUTSIDE, drift -> x.expected(done, drift, 9, 99, 0));
            check.refusedBeyond("part of " + doing, x, 0, 1, OUTSIDE, part -> x.expected(done, 0, 9, 99, part));
            check.taken("drift of " + doing, 0, 5, drift -> x.expected(done, drift, 0, 0, 0));
        }
    }

    @Sentence(promise = 16, says = "STATE; OUTSIDE: doing")
    private static void expectedWithoutRing() {
        WithEyesBound x = new WithEyesBound();
        for (int doing = 0; doing <= 3; doing++) {
            int done = doing;
            check.refused("doing " + doing, x, () -> x.expected(done, 0, 0, 0, 0), STATE);
        }
        check.refused("ahead of OUTSIDE: doing", x, () -> x.expected(4, 0, 0, 0, 0), STATE);
        check.refused("ahead of OUTSIDE: drift, part", x, () -> x.expected(0, 6, 0, 0, 2), STATE);
        check.refused("ahead of UNKNOWN", x, () -> x.expected(3, 0, -1, 11, 0), STATE);
    }

    @Sentence(promise = 16, says = "UNKNOWN: cell of a 3 (not looked at else)")
    private static void expectedUnknown() {
        WithEyesBound x = Check.withRing(".b/px");
        check.refusedBeyond("cell", x, 0, 3, UNKNOWN, cell -> x.expected(3, 0, cell, 0, 0));
        check.refused("a POST", x, () -> x.expected(3, 0, 2, 0, 0), UNKNOWN);
        check.refused("an OUTSIDE one", x, () -> x.expected(3, 0, 3, 0, 0), UNKNOWN);
        check.refused("ahead of right", x, () -> x.expected(3, 0, 4, 11, 0), UNKNOWN);
        check.taken("cell", 0, 1, cell -> x.expected(3, 0, cell, 0, 0));
        for (int doing = 0; doing <= 2; doing++) {
            for (int cell : new int[] {-1, 2, 4, Integer.MIN_VALUE, Integer.MAX_VALUE}) {
                check.due("cell " + cell + " of " + doing, x.expected(doing, 1, cell, 0, 0), x.expected(doing, 1, 0, 0, 0));
                check.holds("cell " + cell + " of " + doing + " is taken", x.expected(doing, 1, cell, 0, 0) > 0);
            }
        }
    }

    @Sentence(promise = 16, says = "OUTSIDE: right of a 3 (likewise)")
    private static void expectedRight() {
        WithEyesBound x = Check.withRing(".b/px");
        check.refusedBeyond("right", x, 0, 10, OUTSIDE, right -> x.expected(3, 0, 0, right, 0));
        check.taken("right", 0, 10, right -> x.expected(3, 0, 0, right, 0));
        for (int doing = 0; doing <= 2; doing++) {
            for (int right : new int[] {-1, 11, Integer.MIN_VALUE, Integer.MAX_VALUE}) {
                check.holds("right " + right + " of " + doing, x.expected(doing, 1, 0, right, 0) > 0);
            }
        }
    }

    @Sentence(promise = 16, says = "STATE: more than seven UPDATES were.")
    private static void expectedTooLate() {
        WithEyesBound x = afterUpdates(FOUR, 7);
        check.taken("doing behind seven", 0, 3, doing -> x.expected(doing, 0, 0, 0, 0));
        for (int updates = 8; updates <= 9; updates++) {
            x.turned(1);
            for (int doing = 0; doing <= 3; doing++) {
                int done = doing;
                check.refused(doing + " behind " + updates, x, () -> x.expected(done, 0, 0, 0, 0), STATE);
            }
            check.refused("behind OUTSIDE", x, () -> x.expected(0, 6, 0, 0, 0), OUTSIDE);
            check.refused("behind UNKNOWN", x, () -> x.expected(3, 0, 4, 0, 0), UNKNOWN);
            check.refused("behind right", x, () -> x.expected(3, 0, 0, 11, 0), OUTSIDE);
        }
        x.lost();
        check.taken("doing behind LOST", 0, 3, doing -> x.expected(doing, 0, 0, 0, 0));
    }

    // ---- 17 next

    @Sentence(promise = 17, says = "STATE; OUTSIDE: drift; UNKNOWN: cell; OUTSIDE: right;")
    private static void nextRefusals() {
        WithEyesBound x = Check.withRing(".b/px");
        check.refusedBeyond("drift", x, 0, 5, OUTSIDE, drift -> x.next(drift, 0, 5));
        check.refusedBeyond("cell", x, 0, 3, UNKNOWN, cell -> x.next(0, cell, 5));
        check.refusedBeyond("right", x, 0, 10, OUTSIDE, right -> x.next(0, 0, right));
        check.refused("a POST", x, () -> x.next(0, 2, 5), UNKNOWN);
        check.refused("an OUTSIDE one", x, () -> x.next(0, 3, 5), UNKNOWN);
        check.refused("drift ahead of cell", x, () -> x.next(6, 4, 11), OUTSIDE);
        check.refused("cell ahead of right", x, () -> x.next(0, 4, 11), UNKNOWN);
        check.taken("drift", 0, 5, drift -> x.next(drift, 0, 5));
        check.taken("cell", 0, 1, cell -> x.next(0, cell, 5));
        check.taken("right", 0, 10, right -> x.next(0, 0, right));
        WithEyesBound y = new WithEyesBound();
        check.refused("without a RING", y, () -> y.next(0, 0, 0), STATE);
        check.refused("without a RING, ahead of all", y, () -> y.next(6, 4, 11), STATE);
    }

    @Sentence(promise = 17, says = "STATE, as expected().")
    private static void nextTooLate() {
        WithEyesBound x = afterUpdates(FOUR, 7);
        check.taken("drift behind seven", 0, 5, drift -> x.next(drift, 0, 5));
        for (int updates = 8; updates <= 9; updates++) {
            x.turned(1);
            check.refused("behind " + updates, x, () -> x.next(0, 0, 5), STATE);
            check.refused("behind drift", x, () -> x.next(6, 0, 5), OUTSIDE);
            check.refused("behind cell", x, () -> x.next(0, 4, 5), UNKNOWN);
            check.refused("behind right", x, () -> x.next(0, 0, 11), OUTSIDE);
        }
    }

    // ---- 18 post

    @Sentence(promise = 18, says = "POST's worth, in lowest terms (above it may be below 0).")
    private static void postBelowNought() {
        WithEyesBound x = setIn("..p/..x/pxx", 0, 1);
        x.step(2, 0);
        // Three to one in 1 and 3.
        fraction("it hides", part -> x.post(2, 0, part), -1, 4);
        WithEyesBound y = setIn("..p/..x/xxx", 0, 1);
        y.step(2, 0);
        fraction("it tells", part -> y.post(2, 0, part), 1, 4);
        fraction("it is worth nothing", part -> Check.withRing(".p/..").post(1, 0, part), 0, 1);
    }

    @Sentence(promise = 18, says = "-1000000000000000001: UNKNOWN: cell (one that is no POST, too)")
    private static void postUnknown() {
        WithEyesBound x = Check.withRing(".b/px");
        check.refusedBeyond("cell", x, 0, 3, NO_POST, cell -> x.post(cell, 0, 0));
        check.refused("a FLOOR", x, () -> x.post(0, 0, 0), NO_POST);
        check.refused("a BOARD", x, () -> x.post(1, 0, 0), NO_POST);
        check.refused("an OUTSIDE one", x, () -> x.post(3, 0, 0), NO_POST);
        check.refused("ahead of OUTSIDE", x, () -> x.post(0, 6, 2), NO_POST);
        WithEyesBound y = new WithEyesBound();
        check.refused("without a RING", y, () -> y.post(0, 6, 2), NO_POST);
        check.taken("a POST", 2, 2, cell -> x.post(cell, 0, 0));
        WithEyesBound z = Check.withRing("p./.p");
        check.taken("the first and last CELL", 0, 3, cell -> z.post(cell, 0, 0));
    }

    @Sentence(promise = 18, says = "-1000000000000000002: OUTSIDE: drift, part")
    private static void postOutside() {
        WithEyesBound x = Check.withRing(".b/px");
        check.refusedBeyond("drift", x, 0, 5, POST_OUTSIDE, drift -> x.post(2, drift, 0));
        check.refusedBeyond("part", x, 0, 1, POST_OUTSIDE, part -> x.post(2, 0, part));
        check.taken("drift", 0, 5, drift -> x.post(2, drift, 0));
        check.taken("part", 0, 1, part -> x.post(2, 0, part));
    }

    @Sentence(promise = 18, says = "-1000000000000000003: STATE: more than seven UPDATES were.")
    private static void postTooLate() {
        WithEyesBound x = afterUpdates(".b/px", 7);
        check.taken("part behind seven", 0, 1, part -> x.post(2, 0, part));
        for (int updates = 8; updates <= 9; updates++) {
            x.turned(1);
            check.refused("behind " + updates, x, () -> x.post(2, 0, 0), POST_STATE);
            check.refused("behind UNKNOWN", x, () -> x.post(0, 0, 0), NO_POST);
            check.refused("behind OUTSIDE", x, () -> x.post(2, 6, 0), POST_OUTSIDE);
        }
    }
}
