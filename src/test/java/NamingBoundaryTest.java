import java.util.Arrays;

/** Promises 26 to 34, NAMING and the IMAGE: a test for each sentence that names a boundary case. */
public final class NamingBoundaryTest {
    private static final int NONE = Check.NONE, UNKNOWN = Check.UNKNOWN, OUTSIDE = Check.OUTSIDE,
        STATE = Check.STATE, FULL = Check.FULL;
    private static final String FOUR = "../..";
    private static final String WIDE = "....../....../....../....../....../......";
    private static final Check check = new Check();

    public static void main(String[] args) throws Exception {
        Sentences.testEach(NamingBoundaryTest.class, check);
    }

    private static WithEyesBound ofSizes(int... sizes) {
        WithEyesBound x = Check.withRing(FOUR);
        for (int size : sizes) {
            x.player(0, 0, size, 0, 0);
        }
        return x;
    }

    private static void likely(String what, WithEyesBound x, int[] asked, long above, long below) {
        for (int part = 0; part <= 1; part++) {
            check.due(what + ": named, part " + part, x.named(asked[0], asked[1], asked[2], asked[3], part),
                part == 0 ? above : below);
        }
    }

    // ---- what the terms say

    @Sentence(promise = 0, says = "right in 10 less twice u tenths, one more, one less in u each (u 0 to 5)")
    private static void sizeLeastAndMost() {
        for (int u = 0; u <= 5; u++) {
            WithEyesBound x = ofSizes(4, 4, 5, 3, 6, 2);
            x.feels(u, 10, 10);
            int right = 10 - 2 * u;
            int all = 2 * right + 2 * u;
            for (int player = 0; player < 6; player++) {
                int due = player < 2 ? right : player < 4 ? u : 0;
                int divisor = 1;
                for (int d = 2; d <= all; d++) {
                    divisor = due % d == 0 && all % d == 0 ? d : divisor;
                }
                likely("u " + u + ", PLAYER " + player, x, new int[] {player, 4, 0, 0}, due / divisor, all / divisor);
            }
        }
    }

    @Sentence(promise = 0, says = "one more, one less in u each")
    private static void sizeDoesNotWrapAround() {
        WithEyesBound x = ofSizes(0);
        x.feels(5, 10, 10);
        for (int size = 0; size <= 9; size++) {
            check.due("SIZE 0 felt as " + size, x.says(size, 0, 0), size == 1 ? 0 : NONE);
        }
        WithEyesBound y = ofSizes(9);
        y.feels(5, 10, 10);
        for (int size = 0; size <= 9; size++) {
            check.due("SIZE 9 felt as " + size, y.says(size, 0, 0), size == 8 ? 0 : NONE);
        }
        // Nothing is made up for what lies beyond: of SIZE 9 and 8, felt 9 by u 1, eight to one.
        WithEyesBound z = ofSizes(9, 8);
        z.feels(1, 10, 10);
        likely("at the edge", z, new int[] {0, 9, 0, 0}, 8, 9);
        likely("the other one", z, new int[] {1, 9, 0, 0}, 1, 9);
    }

    @Sentence(promise = 0, says = "right in so many tenths, else each of the four others alike")
    private static void clothAndGiggleLeastAndMost() {
        WithEyesBound x = Check.withRing(FOUR);
        x.player(0, 0, 5, 0, 4);
        x.player(0, 0, 5, 4, 0);
        x.feels(0, 10, 10);
        check.due("always right", x.says(5, 0, 4), 0);
        check.due("always right, the other one", x.says(5, 4, 0), 1);
        check.due("it can be nobody", x.says(5, 0, 0), NONE);
        x.feels(0, 0, 10);
        check.due("CLOTH never right", x.says(5, 0, 4), NONE);
        check.due("CLOTH another one", x.says(5, 4, 4), 0);
        x.feels(0, 10, 0);
        check.due("GIGGLE never right", x.says(5, 0, 4), NONE);
        check.due("GIGGLE another one", x.says(5, 0, 0), 0);
        x.feels(0, 0, 0);
        check.due("neither is ever right", x.says(5, 0, 4), 1);
        // In two tenths it is like each of the others: two to eight by four.
        x.feels(0, 2, 2);
        likely("by two tenths all are alike", x, new int[] {0, 5, 0, 4}, 1, 2);
        x.feels(0, 3, 2);
        likely("by three the right one is likelier", x, new int[] {0, 5, 0, 4}, 12, 19);
        x.feels(0, 1, 2);
        likely("by one the other one is", x, new int[] {0, 5, 0, 4}, 4, 13);
        x.feels(0, 2, 9);
        likely("by GIGGLE", x, new int[] {0, 5, 0, 4}, 36, 37);
    }

    @Sentence(promise = 0, says = "in j tenths: then the CLOTH of each is that of the other one")
    private static void jacketsLeastAndMost() {
        WithEyesBound x = Check.withRing(FOUR);
        x.player(0, 0, 5, 0, 0);
        x.player(0, 0, 5, 4, 0);
        x.player(0, 0, 5, 2, 0);
        for (int j = 0; j <= 10; j++) {
            x.jackets(0, 1, j);
            int divisor = j == 0 || j == 10 ? 10 : j == 5 ? 5 : j % 2 == 0 ? 2 : 1;
            likely("j " + j + ", 0 has its own", x, new int[] {0, 5, 0, 0}, (10 - j) / divisor, 10 / divisor);
            likely("j " + j + ", 1 has that of 0", x, new int[] {1, 5, 0, 0}, j / divisor, 10 / divisor);
            likely("j " + j + ", 1 has its own", x, new int[] {1, 5, 4, 0}, (10 - j) / divisor, 10 / divisor);
            likely("j " + j + ", 2 has its own", x, new int[] {2, 5, 2, 0}, 1, 1);
        }
        WithEyesBound alike = ofSizes(5, 5, 5);
        for (int j : new int[] {0, 3, 10}) {
            alike.jackets(0, 2, j);
            likely("j " + j + ", all in the same CLOTH", alike, new int[] {1, 5, 0, 0}, 1, 3);
        }
    }

    @Sentence(promise = 0, says = "SAYS: the likeliest, of like ones the least.")
    private static void saysOfLikeOnes() {
        check.due("six alike", ofSizes(5, 5, 5, 5, 5, 5).says(5, 0, 0), 0);
        check.due("the last two alike", ofSizes(1, 1, 1, 1, 5, 5).says(5, 0, 0), 4);
        check.due("the last", ofSizes(1, 1, 1, 1, 1, 5).says(5, 0, 0), 5);
        WithEyesBound x = ofSizes(4, 5, 6);
        x.feels(5, 10, 10);
        check.due("one less and one more alike", x.says(5, 0, 0), 0);
        x.feels(3, 10, 10);
        check.due("right is likelier, four to three", x.says(5, 0, 0), 1);
        x.feels(4, 10, 10);
        check.due("right is less likely, two to four", x.says(5, 0, 0), 0);
    }

    @Sentence(promise = 0, says = "is more than what is wrong costs, times how likely it is not")
    private static void whenAsMuchIsNotMore() {
        WithEyesBound x = ofSizes(5, 5);
        check.due("half: as much", x.when(5, 0, 0, 50, 50), 0);
        check.due("half: more", x.when(5, 0, 0, 50, 49), 1);
        check.due("half: less", x.when(5, 0, 0, 49, 50), 0);
        WithEyesBound six = ofSizes(5, 5, 5, 5, 5, 5);
        check.due("one in six: as much", six.when(5, 0, 0, 95, 19), 0);
        check.due("one in six: more", six.when(5, 0, 0, 96, 19), 1);
        check.due("one in six: less", six.when(5, 0, 0, 94, 19), 0);
        WithEyesBound one = ofSizes(5);
        check.due("sure, worth nothing", one.when(5, 0, 0, 0, 0), 0);
        check.due("sure, worth one", one.when(5, 0, 0, 1, 99), 1);
        check.due("half, nothing for nothing", x.when(5, 0, 0, 0, 0), 0);
    }

    @Sentence(promise = 0, says = "An IMAGE keeps HIS ODDS (and UPDATES), JACKETS, where PLAYERS were told.")
    private static void imageKeeps() {
        WithEyesBound x = ofSizes(5, 6);
        x.jackets(1, 0, 10);
        x.set(3, 3);
        Check.turnTimes(x, 9);
        x.image();
        long before = x.digest();
        x.lost();
        x.jackets(0, 1, 1);
        x.move(0, 3);
        x.move(1, 2);
        check.holds("all is changed", x.digest() != before);
        x.restore();
        check.due("all is as it was", x.digest(), before);
        check.due("UPDATES", x.count(3), 9);
        check.refused("the tenth UPDATE", x, () -> x.turned(0), FULL);
    }

    @Sentence(promise = 0, says = "they change nothing")
    private static void refusalsChangeNothing() {
        WithEyesBound x = ofSizes(5, 6);
        x.set(3, 3);
        x.image();
        x.move(0, 3);
        x.lost();
        Check.write(x, "....");
        check.refused("ring()", x, x::ring, STATE);
        check.refused("letters", x, () -> x.letters(-1), OUTSIDE);
        check.refused("jackets", x, () -> x.jackets(0, 0, 5), UNKNOWN);
        check.refused("feels", x, () -> x.feels(0, 0, 11), OUTSIDE);
        check.refused("move", x, () -> x.move(0, 4), UNKNOWN);
        check.due("nor the IMAGE", x.restore(), 2);
        check.due("HE is where he was", x.likeliest(), 3);
        check.due("and so is she", x.about(0, 1), 0);
    }

    @Sentence(promise = 0, says = "Without a RING: STATE, where it is told, behind UNKNOWN.")
    private static void withoutARing() {
        WithEyesBound x = new WithEyesBound();
        Check.write(x, "../");
        x.feels(1, 2, 3);
        Check.Call[] state = {x::ring, x::lost, () -> x.turned(0), () -> x.step(0, 0), () -> x.ways(0, 0), x::likeliest,
            () -> x.knows(0), () -> x.expected(0, 0, 0, 0, 0), () -> x.next(0, 0, 0), x::image, x::restore};
        for (int i = 0; i < state.length; i++) {
            check.refused("STATE " + i, x, state[i], STATE);
        }
        Check.Call[] unknown = {() -> x.cell(0), () -> x.set(0, 0), () -> x.heard(0, 0, 0), () -> x.odds(0, 0),
            () -> x.player(0, 0, 0, 0, 0), () -> x.as(0, 0), () -> x.about(0, 0), () -> x.move(0, 0),
            () -> x.game(0, 0, 0, 0, 1, 0), () -> x.lasts(0, 0, 0, 1, 1), () -> x.stand(0, 0, 0, 0, 1, 1),
            () -> x.jackets(0, 1, 0), () -> x.named(0, 0, 0, 0, 0)};
        for (int i = 0; i < unknown.length; i++) {
            check.refused("UNKNOWN " + i, x, unknown[i], UNKNOWN);
        }
        check.refused("post()", x, () -> x.post(0, 0, 0), -1000000000000000001L);
    }

    @Sentence(promise = 0, says = "An object is used for at most 512 calls after it has been made")
    private static void fiveHundredAndTwelveCalls() {
        WithEyesBound x = new WithEyesBound();
        for (int ring = 1; ring <= 255; ring++) {
            check.due("letters for RING " + ring, x.letters(0x2e2e2f2e2eL), 5);
            check.due("RING " + ring, x.ring(), 4);
        }
        check.due("call 511", x.count(6), 255);
        check.due("call 512", x.lost(), 16);
    }

    // ---- 26 feels

    @Sentence(promise = 26, says = "What he feels is so from now on")
    private static void feelsFromNowOn() {
        WithEyesBound x = new WithEyesBound();
        check.due("without a RING", x.feels(3, 4, 5), 1);
        check.due("without a RING, digest()", x.digest(), Told.weights().feels(3, 4, 5).digestOf(x));
        Check.readRing(x, ".x/xx");
        long[] lost = {1, 1, 1, 1, 0, 0, 0, 0, 0, 0, 0, 0, 0, 0, 0, 0};
        check.due("a RING leaves it", x.digest(), Told.weights(lost).feels(3, 4, 5).digestOf(x));
        x.image();
        x.feels(1, 2, 3);
        x.restore();
        check.due("restore() leaves it", x.digest(), Told.weights(lost).feels(1, 2, 3).digestOf(x));
    }

    @Sentence(promise = 26, says = "u (0 to 5), CLOTH, GIGGLE right in so many tenths (0 to 10): 1. OUTSIDE.")
    private static void feelsOutside() {
        WithEyesBound x = ofSizes(5);
        x.feels(1, 2, 3);
        check.refusedBeyond("u", x, 0, 5, OUTSIDE, u -> x.feels(u, 0, 0));
        check.refusedBeyond("cloth", x, 0, 10, OUTSIDE, cloth -> x.feels(0, cloth, 0));
        check.refusedBeyond("giggle", x, 0, 10, OUTSIDE, giggle -> x.feels(0, 0, giggle));
        check.due("the least", x.feels(0, 0, 0), 1);
        check.due("the most", x.feels(5, 10, 10), 1);
        check.due("just one of all is wrong: the first", x.feels(6, 10, 10), OUTSIDE);
    }

    // ---- 27 jackets

    @Sentence(promise = 27, says = "in j tenths (0 to 10; others are not thought of any more)")
    private static void jacketsOfOthers() {
        WithEyesBound x = ofSizes(5, 5, 5);
        long[] lost = {1, 1, 1, 1, 1, 1, 1, 1, 1, 1, 1, 1, 1, 1, 1, 1};
        check.due("none", x.digest(), Told.weights(lost).digestOf(x));
        check.due("j 10", x.jackets(0, 1, 10), 1);
        check.due("0 and 1", x.digest(), Told.weights(lost).jackets(0, 1, 10).digestOf(x));
        check.due("j 1", x.jackets(2, 1, 1), 1);
        check.due("2 and 1 alone", x.digest(), Told.weights(lost).jackets(2, 1, 1).digestOf(x));
        check.due("j 0", x.jackets(1, 2, 0), 1);
        check.due("1 and 2, in none", x.digest(), Told.weights(lost).jackets(1, 2, 0).digestOf(x));
    }

    @Sentence(promise = 27, says = "UNKNOWN: a, b, or they are the same; OUTSIDE.")
    private static void jacketsRefusals() {
        WithEyesBound x = ofSizes(5, 5, 5);
        x.jackets(0, 1, 7);
        check.refusedBeyond("a", x, 0, 2, UNKNOWN, a -> x.jackets(a, 1, 5));
        check.refusedBeyond("b", x, 0, 2, UNKNOWN, b -> x.jackets(1, b, 5));
        check.refusedBeyond("both", x, 0, 2, UNKNOWN, both -> x.jackets(both, both, 5));
        for (int player = 0; player < 3; player++) {
            int same = player;
            check.refused("the same, " + player, x, () -> x.jackets(same, same, 5), UNKNOWN);
            check.refused("the same, ahead of OUTSIDE", x, () -> x.jackets(same, same, 11), UNKNOWN);
        }
        check.refusedBeyond("j", x, 0, 10, OUTSIDE, j -> x.jackets(0, 1, j));
        check.refused("UNKNOWN ahead of OUTSIDE", x, () -> x.jackets(0, 3, 11), UNKNOWN);
        check.taken("j", 0, 10, j -> x.jackets(0, 1, j));
        check.taken("a", 0, 2, a -> x.jackets(a, 1, 5));
    }

    // ---- 28 named

    @Sentence(promise = 28, says = "NAMED, in lowest terms (NONE, both: it can be nobody).")
    private static void namedNobody() {
        WithEyesBound x = ofSizes(5, 5, 6);
        likely("half", x, new int[] {0, 5, 0, 0}, 1, 2);
        likely("sure", x, new int[] {2, 6, 0, 0}, 1, 1);
        likely("surely not", x, new int[] {0, 6, 0, 0}, 0, 1);
        likely("nobody by SIZE", x, new int[] {0, 7, 0, 0}, NONE, NONE);
        likely("nobody by CLOTH", x, new int[] {0, 5, 1, 0}, NONE, NONE);
        likely("nobody by GIGGLE", x, new int[] {0, 5, 0, 1}, NONE, NONE);
        x.feels(5, 0, 0);
        likely("one more, and nothing right", x, new int[] {0, 6, 1, 1}, 1, 2);
        likely("nobody, as CLOTH is never right", x, new int[] {0, 6, 0, 1}, NONE, NONE);
        likely("one in six", ofSizes(5, 5, 5, 5, 5, 5), new int[] {5, 5, 0, 0}, 1, 6);
    }

    @Sentence(promise = 28, says = "UNKNOWN: player; OUTSIDE: size (0 to 9), cloth, giggle (0 to 4), part.")
    private static void namedRefusals() {
        WithEyesBound x = ofSizes(5, 5);
        check.refusedBeyond("player", x, 0, 1, UNKNOWN, player -> x.named(player, 5, 0, 0, 0));
        check.refusedBeyond("size", x, 0, 9, OUTSIDE, size -> x.named(0, size, 0, 0, 0));
        check.refusedBeyond("cloth", x, 0, 4, OUTSIDE, cloth -> x.named(0, 5, cloth, 0, 0));
        check.refusedBeyond("giggle", x, 0, 4, OUTSIDE, giggle -> x.named(0, 5, 0, giggle, 0));
        check.refusedBeyond("part", x, 0, 1, OUTSIDE, part -> x.named(0, 5, 0, 0, part));
        check.refused("part, where it can be nobody", x, () -> x.named(0, 7, 0, 0, 2), OUTSIDE);
        check.refused("UNKNOWN ahead of OUTSIDE", x, () -> x.named(2, 10, 5, 5, 2), UNKNOWN);
        check.taken("size", 0, 9, size -> x.named(0, size, 0, 0, 0));
        check.taken("cloth", 0, 4, cloth -> x.named(0, 5, cloth, 0, 0));
        check.taken("giggle", 0, 4, giggle -> x.named(0, 5, 0, giggle, 0));
        WithEyesBound y = new WithEyesBound();
        check.refused("without a RING", y, () -> y.named(0, 10, 5, 5, 2), UNKNOWN);
    }

    // ---- 29 says, 30 when

    @Sentence(promise = 29, says = "NONE: it can be nobody.")
    private static void saysNobody() {
        check.due("without a RING", new WithEyesBound().says(0, 0, 0), NONE);
        check.due("without PLAYERS", Check.withRing(FOUR).says(9, 4, 4), NONE);
        WithEyesBound x = ofSizes(5, 6);
        check.due("by SIZE", x.says(4, 0, 0), NONE);
        check.due("by CLOTH", x.says(5, 4, 0), NONE);
        check.due("by GIGGLE", x.says(5, 0, 4), NONE);
        check.due("somebody", x.says(6, 0, 0), 1);
    }

    @Sentence(promise = 29, says = "OUTSIDE: size, cloth, giggle.")
    private static void saysOutside() {
        WithEyesBound x = ofSizes(5);
        check.refusedBeyond("size", x, 0, 9, OUTSIDE, size -> x.says(size, 0, 0));
        check.refusedBeyond("cloth", x, 0, 4, OUTSIDE, cloth -> x.says(5, cloth, 0));
        check.refusedBeyond("giggle", x, 0, 4, OUTSIDE, giggle -> x.says(5, 0, giggle));
        check.taken("size", 0, 9, size -> x.says(size, 0, 0));
        check.taken("cloth", 0, 4, cloth -> x.says(5, cloth, 0));
        check.taken("giggle", 0, 4, giggle -> x.says(5, 0, giggle));
        WithEyesBound y = new WithEyesBound();
        check.refused("without a RING", y, () -> y.says(10, 0, 0), OUTSIDE);
    }

    @Sentence(promise = 30, says = "1, 0 (0, too: it can be nobody)")
    private static void whenNobody() {
        check.due("without a RING", new WithEyesBound().when(0, 0, 0, 99, 0), 0);
        check.due("without PLAYERS", Check.withRing(FOUR).when(9, 4, 4, 99, 0), 0);
        WithEyesBound x = ofSizes(5, 6);
        check.due("by SIZE", x.when(4, 0, 0, 99, 0), 0);
        check.due("by CLOTH", x.when(5, 4, 0, 99, 0), 0);
        check.due("by GIGGLE", x.when(5, 0, 4, 99, 0), 0);
        check.due("somebody", x.when(6, 0, 0, 99, 0), 1);
    }

    @Sentence(promise = 30, says = "OUTSIDE: size, cloth, giggle, worth, costs (0 to 99).")
    private static void whenOutside() {
        WithEyesBound x = ofSizes(5);
        check.refusedBeyond("size", x, 0, 9, OUTSIDE, size -> x.when(size, 0, 0, 1, 1));
        check.refusedBeyond("cloth", x, 0, 4, OUTSIDE, cloth -> x.when(5, cloth, 0, 1, 1));
        check.refusedBeyond("giggle", x, 0, 4, OUTSIDE, giggle -> x.when(5, 0, giggle, 1, 1));
        check.refusedBeyond("worth", x, 0, 99, OUTSIDE, worth -> x.when(5, 0, 0, worth, 1));
        check.refusedBeyond("costs", x, 0, 99, OUTSIDE, costs -> x.when(5, 0, 0, 1, costs));
        check.taken("worth", 0, 99, worth -> x.when(5, 0, 0, worth, 1));
        check.taken("costs", 0, 99, costs -> x.when(5, 0, 0, 1, costs));
        check.refused("worth, where it can be nobody", x, () -> x.when(4, 0, 0, 100, 0), OUTSIDE);
        WithEyesBound y = new WithEyesBound();
        check.refused("without a RING", y, () -> y.when(0, 0, 0, 0, 100), OUTSIDE);
    }

    // ---- 31 image, 32 restore

    @Sentence(promise = 31, says = "An IMAGE is kept (one; the latest): how many PLAYERS.")
    private static void imageTheLatest() {
        WithEyesBound x = Check.withRing(FOUR);
        check.due("no PLAYERS", x.image(), 0);
        for (int player = 1; player <= 6; player++) {
            x.player(0, 0, 5, 0, 0);
            check.due(player + " PLAYERS", x.image(), player);
        }
        x.set(1, 1);
        x.move(0, 1);
        x.jackets(0, 1, 1);
        x.image();
        x.set(2, 2);
        x.move(0, 2);
        x.jackets(0, 2, 2);
        x.image();
        long latest = x.digest();
        x.set(3, 3);
        x.move(0, 3);
        x.jackets(0, 3, 3);
        x.restore();
        check.due("the latest", x.digest(), latest);
        x.restore();
        check.due("there is none behind it", x.digest(), latest);
    }

    @Sentence(promise = 31, says = "STATE: there is no RING.")
    private static void imageWithoutRing() {
        WithEyesBound x = new WithEyesBound();
        check.refused("a new object", x, x::image, STATE);
        Check.write(x, "xx/xx");
        x.ring();
        check.refused("behind a refused ring()", x, x::image, STATE);
        check.refused("none was kept by that", x, x::restore, STATE);
    }

    @Sentence(promise = 32, says = "(PLAYERS that came since stay where they are told): how many PLAYERS.")
    private static void restoreLeavesTheNew() {
        WithEyesBound x = ofSizes(5);
        x.image();
        for (int player = 1; player < 6; player++) {
            x.player(player, 1, 9, 4, 4);
        }
        x.move(0, 3);
        x.move(5, 2);
        x.jackets(0, 5, 10);
        check.due("six", x.restore(), 6);
        check.due("the old one", x.about(0, 1), 0);
        check.due("a new one", x.about(1, 1), 1);
        check.due("a new one that was moved", x.about(5, 1), 2);
        long[] lost = {1, 1, 1, 1, 1, 1, 1, 1, 1, 1, 1, 1, 1, 1, 1, 1};
        check.due("JACKETS, none were", x.digest(), Told.weights(lost).digestOf(x));
        x.image();
        x.move(5, 0);
        x.restore();
        check.due("it is old for the next IMAGE", x.about(5, 1), 2);
        WithEyesBound y = Check.withRing(FOUR);
        y.image();
        check.due("none", y.restore(), 0);
    }

    @Sentence(promise = 32, says = "STATE: none was kept")
    private static void restoreNoneKept() {
        WithEyesBound x = new WithEyesBound();
        check.refused("a new object", x, x::restore, STATE);
        x.image();
        check.refused("behind a refused image()", x, x::restore, STATE);
        WithEyesBound y = ofSizes(5);
        check.refused("with a RING", y, y::restore, STATE);
        y.image();
        check.due("kept", y.restore(), 1);
        check.due("kept for more than once", y.restore(), 1);
    }

    @Sentence(promise = 32, says = "or a RING was read since (of the same text, too).")
    private static void restoreBehindARing() {
        WithEyesBound x = ofSizes(5);
        x.image();
        Check.write(x, "...");
        x.ring();
        check.due("behind a refused ring()", x.restore(), 1);
        x.blank();
        Check.readRing(x, FOUR);
        check.refused("of the same text", x, x::restore, STATE);
        check.due("an IMAGE of this RING", x.image(), 0);
        Check.readRing(x, WIDE);
        check.refused("of another text", x, x::restore, STATE);
        x.player(0, 35, 5, 0, 0);
        x.image();
        x.move(0, 0);
        check.due("an IMAGE of the new RING", x.restore(), 1);
        check.due("she is where she was", x.about(0, 1), 35);
    }

    // ---- 33 count

    @Sentence(promise = 33, says = "0 CELLS, 1 FREE ones, 2 PLAYERS, 3 UPDATES, 4 weights above 0, 5 letters of THE PAGE")
    private static void countsLeastAndMost() {
        WithEyesBound least = new WithEyesBound();
        for (int what = 0; what <= 7; what++) {
            check.due("a new object, " + what, least.count(what), 0);
        }
        WithEyesBound most = Check.withRing(WIDE);
        for (int player = 0; player < 6; player++) {
            most.player(player, 0, 0, 0, 0);
        }
        Check.turnTimes(most, 9);
        Check.write(most, "~".repeat(45));
        int[] due = {36, 36, 6, 9, 144, 45, 1, 0};
        for (int what = 0; what <= 7; what++) {
            check.due("the most, " + what, most.count(what), due[what]);
        }
        WithEyesBound one = Check.withRing("xb/px");
        check.due("one FREE one", one.count(1), 1);
        check.due("its weights", one.count(4), 4);
    }

    @Sentence(promise = 33, says = "6 how often a RING was read, 7 how often stand() was done")
    private static void countsHowOften() {
        WithEyesBound x = ofSizes(5);
        Check.write(x, "...");
        x.ring();
        check.due("a refused ring() is none", x.count(6), 1);
        x.blank();
        Check.readRing(x, FOUR);
        check.due("of the same text", x.count(6), 2);
        x.stand(0, 0, 0, 0, 1, 1);
        check.due("a refused stand() is none", x.count(7), 0);
        x.player(0, 0, 0, 0, 0);
        x.image();
        x.stand(0, 0, 0, 0, 1, 1);
        x.restore();
        check.due("once", x.count(7), 1);
        check.due("restore() leaves the RINGS read", x.count(6), 2);
    }

    @Sentence(promise = 33, says = "OUTSIDE.")
    private static void countOutside() {
        WithEyesBound x = ofSizes(5);
        check.refusedBeyond("what", x, 0, 7, OUTSIDE, x::count);
        WithEyesBound y = new WithEyesBound();
        check.refusedBeyond("what, without a RING", y, 0, 7, OUTSIDE, y::count);
    }

    // ---- 34 digest

    @Sentence(promise = 34, says = "h is 457, then for each of these numbers, in order, 31 times h, and it (as longs, wrapping)")
    private static void digestWraps() {
        check.due("a new object", new WithEyesBound().digest(),
            Told.mixed(0, 10, 10, -1, -1, 0, 0, 0, 0, 0, 0, 0, 0, 0));
        WithEyesBound x = Check.withRing(WIDE);
        long[] lost = new long[144];
        Arrays.fill(lost, 1);
        check.due("the largest RING", x.digest(), Told.weights(lost).digestOf(x));
        Check.write(x, "~".repeat(45));
        check.due("with the longest PAGE", x.digest(), Told.weights(lost).page("~".repeat(45)).digestOf(x));
        check.due("asked once more", x.digest(), x.digest());
    }

    @Sentence(promise = 34, says = "of each CELL and WAY the weight (0 of those that are not FREE)")
    private static void digestOfWeights() {
        WithEyesBound x = Check.withRing("px/.b");
        check.due("LOST", x.digest(), Told.mixed(2, 3, 0, 1, 0, 0, 0, 0, 0, 0, 0, 0, 1, 1, 1, 1, 1, 1, 1, 1,
            0, 10, 10, -1, -1, 0, 4, 2, 0, 0, 8, 0, 1, 0));
        x.set(3, 1);
        check.due("SET", x.digest(), Told.mixed(2, 3, 0, 1, 0, 0, 0, 0, 0, 0, 0, 0, 0, 0, 0, 0, 0, 1, 0, 0,
            0, 10, 10, -1, -1, 0, 4, 2, 0, 0, 1, 0, 1, 0));
    }

    @Sentence(promise = 34, says = "of each PLAYER what about() tells for 0 to 4")
    private static void digestOfPlayers() {
        WithEyesBound x = Check.withRing("xp/xb");
        for (int player = 0; player < 6; player++) {
            x.player(player, 3, 9 - player, player % 5, 4 - player % 5);
        }
        // The first one, who just stands, is touched at once.
        check.due("six", x.digest(), Told.mixed(3, 2, 3, 1, 0, 0, 0, 0, 0, 0, 0, 0, 0, 0, 0, 0, 1, 1, 1, 1,
            0, 3, 9, 0, 4, 1, 3, 8, 1, 3, 2, 3, 7, 2, 2, 3, 3, 6, 3, 1, 4, 3, 5, 4, 0, 5, 3, 4, 0, 4,
            0, 10, 10, -1, -1, 0, 0, 0, 4, 1, 6, 0, 4, 0, 1, 0));
        Check.readRing(x, "xp/xb");
        check.due("none", x.digest(), Told.mixed(3, 2, 3, 1, 0, 0, 0, 0, 0, 0, 0, 0, 0, 0, 0, 0, 1, 1, 1, 1,
            0, 10, 10, -1, -1, 0, 4, 1, 0, 0, 4, 0, 2, 0));
    }

    @Sentence(promise = 34, says = "both PLAYERS of JACKETS, j (NONE, NONE, 0: none)")
    private static void digestOfJackets() {
        WithEyesBound x = ofSizes(5, 6);
        long[] lost = {1, 1, 1, 1, 1, 1, 1, 1, 1, 1, 1, 1, 1, 1, 1, 1};
        check.due("none", x.digest(), Told.weights(lost).jackets(-1, -1, 0).digestOf(x));
        x.jackets(1, 0, 10);
        check.due("as they were told", x.digest(), Told.weights(lost).jackets(1, 0, 10).digestOf(x));
        Check.readRing(x, FOUR);
        check.due("gone with the RING", x.digest(), Told.weights(lost).jackets(-1, -1, 0).digestOf(x));
    }

    @Sentence(promise = 34, says = "with a RING and PLAYERS who is touched and when in a GAME of 20 TENTHS by SEED 1 from the first FREE CELL, WAY 0, DRIFT 2")
    private static void digestOfAGame() {
        long[] one = {0, 0, 0, 0, 0, 0, 0, 0, 0, 0, 0, 0, 1, 1, 1, 1};
        WithEyesBound x = Check.withRing("xp/xb");
        check.due("no PLAYERS: no GAME", x.digest(), Told.mixed(3, 2, 3, 1, 0, 0, 0, 0, 0, 0, 0, 0, 0, 0, 0, 0, 1, 1, 1, 1,
            0, 10, 10, -1, -1, 0, 4, 1, 0, 0, 4, 0, 1, 0));
        x.player(0, 3, 5, 1, 2);
        check.due("touched at once", x.digest(), Told.mixed(3, 2, 3, 1, 0, 0, 0, 0, 0, 0, 0, 0, 0, 0, 0, 0, 1, 1, 1, 1,
            0, 3, 5, 1, 2, 0, 10, 10, -1, -1, 0, 0, 0, 4, 1, 1, 0, 4, 0, 1, 0));
        check.due("as game() tells it", x.digest(), Told.weights(one).digestOf(x));
        // HE is shut in 0, she in 3: nobody is touched in 20 TENTHS.
        WithEyesBound y = Check.withRing(".p/pb");
        y.player(0, 3, 5, 1, 2);
        check.due("nobody is touched", y.digest(), Told.mixed(0, 2, 2, 1, 1, 1, 1, 1, 0, 0, 0, 0, 0, 0, 0, 0, 1, 1, 1, 1,
            0, 3, 5, 1, 2, 0, 10, 10, -1, -1, 0, -1, 20, 4, 2, 1, 0, 8, 0, 1, 0));
        // Each CELL in which she may be told: another SEED, WAY or DRIFT would meet her in another TENTH.
        WithEyesBound z = Check.withRing("x...../....../....../......");
        long[] weights = new long[96];
        Arrays.fill(weights, 4, 96, 1);
        z.player(0, 1, 0, 0, 0);
        int touched = 0;
        for (int cell = 1; cell < 24; cell++) {
            z.move(0, cell);
            check.due("a PLAYER in " + cell, z.digest(), Told.weights(weights).digestOf(z));
            touched += z.game(1, 0, 2, 1, 20, 0) == 0 ? 1 : 0;
        }
        check.holds("she is met in many of them: " + touched, touched >= 8);
    }
}
