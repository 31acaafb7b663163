/** Promises 19 to 25, worked by hand. */
public final class PlayersTest {
    private static final int NONE = -1, UNKNOWN = -101, OUTSIDE = -102, STATE = -103, FULL = -104;
    private static final int TOUCHED = 0, TENTH = 1, CELL = 2, SEED = 3;
    private static final Check check = new Check();

    public static void main(String[] args) {
        player();
        as();
        about();
        move();
        walk();
        drifts();
        touches();
        shy();
        small();
        caller();
        feigned();
        behind();
        gameRefusals();
        lasts();
        stand();
        standRefusals();
        check.end();
    }

    private static void player() {
        WithEyesBound x = new WithEyesBound();
        check.due("19 no ring", x.player(0, 0, 0, 0, 0), UNKNOWN);
        check.due("19 no ring, kind", x.player(6, 0, 0, 0, 0), OUTSIDE);
        x = Check.withRing(".b/px");
        check.due("19 kind -1", x.player(-1, 9, 0, 0, 0), OUTSIDE);
        check.due("19 kind 6", x.player(6, 9, 0, 0, 0), OUTSIDE);
        check.due("19 a post", x.player(0, 2, 99, 0, 0), UNKNOWN);
        check.due("19 outside", x.player(0, 3, 0, 0, 0), UNKNOWN);
        check.due("19 beyond", x.player(0, 4, 0, 0, 0), UNKNOWN);
        check.due("19 below", x.player(0, -1, 0, 0, 0), UNKNOWN);
        check.due("19 size 10", x.player(0, 0, 10, 0, 0), OUTSIDE);
        check.due("19 size -1", x.player(0, 0, -1, 0, 0), OUTSIDE);
        check.due("19 cloth 5", x.player(0, 0, 0, 5, 0), OUTSIDE);
        check.due("19 cloth -1", x.player(0, 0, 0, -1, 0), OUTSIDE);
        check.due("19 giggle 5", x.player(0, 0, 0, 0, 5), OUTSIDE);
        check.due("19 giggle -1", x.player(0, 0, 0, 0, -1), OUTSIDE);
        check.due("19 nobody yet", x.count(2), 0);
        for (int i = 0; i < 6; i++) {
            check.due("19 number " + i, x.player(i, i % 2, 9, 4, 4), i);
        }
        check.due("19 the seventh", x.player(0, 0, 0, 0, 0), FULL);
        check.due("19 OUTSIDE ahead of FULL", x.player(0, 0, 10, 0, 0), OUTSIDE);
        check.due("19 UNKNOWN ahead of FULL", x.player(0, 2, 0, 0, 0), UNKNOWN);
        check.due("19 six", x.count(2), 6);
    }

    private static void as() {
        WithEyesBound x = Check.withRing("../..");
        int[] orders = {5, 4, 3, 2, 1, 0};
        for (int kind : orders) {
            x.player(kind, 0, 0, 0, 0);
        }
        boolean[][] such = {
            {true, false, false, false, false, false},
            {true, true, false, false, false, false},
            {true, true, true, false, false, false},
            {true, false, false, true, false, false},
            {true, false, false, true, true, false},
            {true, false, false, false, false, true}};
        for (int player = 0; player < 6; player++) {
            for (int kind = 0; kind < 6; kind++) {
                int due = such[orders[player]][kind] ? player : NONE;
                check.due("20 as(" + player + ", " + kind + ")", x.as(player, kind), due);
            }
        }
        check.due("20 player -1", x.as(-1, 9), UNKNOWN);
        check.due("20 player 6", x.as(6, 9), UNKNOWN);
        check.due("20 kind -1", x.as(0, -1), OUTSIDE);
        check.due("20 kind 6", x.as(0, 6), OUTSIDE);
        check.due("20 not there", Check.withRing("../..").as(0, 0), UNKNOWN);
    }

    private static void about() {
        WithEyesBound x = Check.withRing("../..");
        x.player(4, 3, 9, 1, 2);
        x.player(5, 1, 8, 3, 0);
        int[][] due = {{4, 3, 9, 1, 2}, {5, 1, 8, 3, 0}};
        for (int player = 0; player < 2; player++) {
            for (int what = 0; what < 5; what++) {
                check.due("21 about(" + player + ", " + what + ")", x.about(player, what), due[player][what]);
            }
        }
        check.due("21 player 2", x.about(2, 9), UNKNOWN);
        check.due("21 player -1", x.about(-1, 0), UNKNOWN);
        check.due("21 what -1", x.about(0, -1), OUTSIDE);
        check.due("21 what 5", x.about(0, 5), OUTSIDE);
        x.game(0, 0, 0, 0, 50, 0);
        check.due("21 a game leaves it where it was told", x.about(1, 1), 1);
    }

    private static void move() {
        WithEyesBound x = Check.withRing(".b/px");
        x.player(0, 0, 0, 0, 0);
        check.due("22 it was", x.move(0, 1), 0);
        check.due("22 it is", x.about(0, 1), 1);
        check.due("22 to where it is", x.move(0, 1), 1);
        check.due("22 a post", x.move(0, 2), UNKNOWN);
        check.due("22 outside", x.move(0, 3), UNKNOWN);
        check.due("22 beyond", x.move(0, 4), UNKNOWN);
        check.due("22 below", x.move(0, -1), UNKNOWN);
        check.due("22 player 1", x.move(1, 0), UNKNOWN);
        check.due("22 player -1", x.move(-1, 0), UNKNOWN);
        check.due("22 refusals change nothing", x.about(0, 1), 1);
    }

    private static void seen(String what, WithEyesBound x, int cell, int way, int tenths, int touched, int tenth, int then) {
        check.due(what + ": who, in " + tenths, x.game(cell, way, 0, 0, tenths, TOUCHED), touched);
        check.due(what + ": when, in " + tenths, x.game(cell, way, 0, 0, tenths, TENTH), tenth);
        check.due(what + ": where, in " + tenths, x.game(cell, way, 0, 0, tenths, CELL), then);
    }

    /** Without drift he goes along the rope, a tenth lost at each corner. */
    private static void walk() {
        WithEyesBound x = Check.withRing(".../...");
        int[] then = {1, 2, 2, 5, 5, 4, 3, 3, 0, 0, 1};
        for (int n = 1; n <= then.length; n++) {
            seen("23 walk", x, 0, 1, n, NONE, n, then[n - 1]);
        }
        WithEyesBound y = Check.withRing(".p/xb");
        int[] stays = {0, 0, 0, 0};
        for (int n = 1; n <= 4; n++) {
            seen("23 between posts", y, 0, 1, n, NONE, n, stays[n - 1]);
        }
    }

    private static long after(long seed) {
        return (1103515245L * seed + 12345L) % (1L << 31);
    }

    private static void drifts() {
        WithEyesBound x = Check.withRing(".../.../...");
        check.due("23 the seed then", x.game(4, 0, 0, 0, 1, SEED), 12345);
        check.due("23 the greatest seed", x.game(4, 0, 0, Integer.MAX_VALUE, 1, SEED), after(Integer.MAX_VALUE));
        check.due("23 three seeds on", x.game(4, 0, 5, 77, 3, SEED), after(after(after(77))));
        for (int seed = 0; seed < 60; seed++) {
            long draw = after(seed) / 65536 % 10;
            for (int drift = 0; drift <= 9; drift++) {
                int due = draw < drift ? 5 : 1;
                check.due("23 seed " + seed + " drift " + drift, x.game(4, 0, drift, seed, 1, CELL), due);
            }
        }
    }

    private static void touches() {
        WithEyesBound x = Check.withRing(".../...");
        x.player(0, 2, 0, 0, 0);
        seen("23 on his way", x, 0, 1, 9, 0, 1, 2);
        seen("23 not yet", x, 0, 1, 1, NONE, 1, 1);
        x.player(0, 1, 0, 0, 0);
        seen("23 the one that comes first", x, 0, 1, 9, 1, 0, 1);
        x.player(0, 1, 0, 0, 0);
        seen("23 of two the first", x, 0, 1, 9, 1, 0, 1);
        x.move(1, 0);
        x.move(2, 0);
        seen("23 where he begins nobody is touched", x, 0, 1, 9, 0, 1, 2);
        // He stays at the rope, and whoever is there is touched then.
        seen("23 where he stays", x, 0, 0, 1, 1, 0, 0);
        check.due("23 the seed at the end", x.game(0, 1, 0, 5, 9, SEED), after(after(5)));
    }

    private static void shy() {
        WithEyesBound x = Check.withRing(".../...");
        x.player(1, 1, 0, 0, 0);
        // It flees 1 to 2 (right ahead of down), 2 to 5, 5 to 4, 4 to 3; he goes 1, 2, turns, 5.
        seen("23 shy", x, 0, 1, 4, NONE, 4, 5);
        // Then HE turns left in 5, it goes from 3 to 0; he goes to 4, it stays in 0 (of like ones its own).
        seen("23 shy, fleeing on", x, 0, 1, 6, NONE, 6, 4);
        WithEyesBound y = Check.withRing("../..");
        y.player(1, 3, 0, 0, 0);
        // From 0 he cannot be farther than in 3; HE goes to 1, it to 2; he turns down; he goes to 3, it to 0 ...
        seen("23 shy in a small ring", y, 0, 1, 3, NONE, 3, 3);
        WithEyesBound z = Check.withRing(".p/.p/.p");
        z.player(1, 4, 0, 0, 0);
        seen("23 shy at an end", z, 0, 2, 9, 0, 1, 4);
        WithEyesBound w = Check.withRing(".b/px");
        w.player(1, 1, 0, 0, 0);
        seen("23 shy just goes to free cells", w, 0, 1, 9, 0, 0, 1);
    }

    private static void small() {
        WithEyesBound x = Check.withRing(".p/pp");
        x.player(2, 0, 0, 0, 0);
        for (int first = 0; first < 60; first++) {
            long seed = first;
            int tenth = 20;
            for (int now = 0; now < 20 && tenth == 20; now++) {
                seed = after(after(seed));
                tenth = seed / 65536 % 10 >= 5 ? now : 20;
            }
            check.due("23 small, seed " + first, x.game(0, 0, 0, first, 20, TENTH), tenth);
            check.due("23 small, the seed then " + first, x.game(0, 0, 0, first, 20, SEED), seed);
        }
        x.player(0, 0, 0, 0, 0);
        for (int first = 0; first < 30; first++) {
            int due = after(after(first)) / 65536 % 10 >= 5 ? 0 : 1;
            check.due("23 else the next one, seed " + first, x.game(0, 0, 0, first, 1, TOUCHED), due);
        }
        x.player(2, 0, 0, 0, 0);
        check.due("23 none is drawn behind the touched one", x.game(0, 0, 0, 3, 1, SEED), after(after(3)));
        WithEyesBound y = Check.withRing(".../...");
        y.player(2, 1, 0, 0, 0);
        seen("23 small is shy, too", y, 0, 1, 4, NONE, 4, 5);
    }

    private static void caller() {
        WithEyesBound x = Check.withRing(".../.../...");
        x.player(3, 8, 0, 0, 0);
        // As far down as right: down; in tenth 3 it lies to the right.
        seen("23 caller", x, 0, 0, 10, 0, 4, 8);
        seen("23 caller, no call in tenth 2", x, 0, 0, 3, NONE, 3, 6);
        x.move(0, 4);
        x.player(3, 2, 0, 0, 0);
        // From 0 both are two away: the least player's, straight down.
        seen("23 of like calls that of the least", x, 0, 0, 1, NONE, 1, 3);
        x.move(0, 2);
        x.move(1, 4);
        seen("23 and so to the right", x, 0, 0, 1, NONE, 1, 1);
        x.move(0, 8);
        seen("23 the nearest", x, 0, 0, 1, NONE, 1, 3);
        x.move(1, 0);
        // The nearest is in his own cell: he looks as he did, right.
        seen("23 a call in his own cell", x, 0, 1, 1, NONE, 1, 1);
    }

    private static void feigned() {
        WithEyesBound x = Check.withRing(".../.../...");
        x.player(4, 8, 0, 0, 0);
        // It calls from 0: his own cell, then to the left of 2, again and again.
        seen("23 feigned", x, 0, 0, 10, NONE, 10, 1);
        WithEyesBound y = Check.withRing("..../....");
        y.player(4, 0, 0, 0, 0);
        // It calls from 7: one row down, three columns right of 0.
        seen("23 both ways", y, 0, 0, 1, NONE, 1, 1);
        y.move(0, 1);
        seen("23 from 6", y, 5, 0, 1, NONE, 1, 6);
        WithEyesBound z = Check.withRing(".../xp.");
        z.player(4, 1, 0, 0, 0);
        // The cell may be a post: 4, to the left of 5.
        seen("23 from a post", z, 5, 0, 2, NONE, 2, 2);
    }

    private static void behind() {
        WithEyesBound x = Check.withRing(".../.../...");
        x.player(5, 8, 0, 0, 0);
        int[] then = {1, 1, 2, 2, 5, 8, 8, 7};
        for (int n = 1; n <= 8; n++) {
            seen("23 behind", x, 4, 0, n, NONE, n, then[n - 1]);
        }
        // HE looks right at the rope in 2, behind him is 1: it goes there, and he does not turn to it.
        x.move(0, 0);
        seen("23 behind him at the rope", x, 2, 1, 2, NONE, 2, 5);
        // Looking down in 1, behind him is beyond: from 0 it comes into his own cell, he leaves.
        seen("23 behind is beyond", x, 1, 2, 2, NONE, 2, 7);
        WithEyesBound y = Check.withRing(".p/pp");
        y.player(5, 0, 0, 0, 0);
        seen("23 behind, shut in", y, 0, 0, 2, 0, 0, 0);
        WithEyesBound z = Check.withRing("../..");
        z.player(5, 1, 0, 0, 0);
        // HE looks up in 0; behind is 2: from 1 to 0 or 3 it is as far: down is told ahead of left, so 3.
        seen("23 behind, of like ones the first", z, 0, 0, 1, NONE, 1, 0);
    }

    private static void gameRefusals() {
        WithEyesBound x = new WithEyesBound();
        check.due("23 no ring", x.game(0, 9, 9, 9, 9, 9), UNKNOWN);
        check.due("24 no ring", x.lasts(0, 9, 9, 9, 9), UNKNOWN);
        check.due("25 no ring", x.stand(0, 0, 9, 9, 9, 9), UNKNOWN);
        x = Check.withRing(".p/xb");
        check.due("23 a post", x.game(1, 9, 0, 0, 1, 0), UNKNOWN);
        check.due("23 outside", x.game(2, 0, 0, 0, 1, 0), UNKNOWN);
        check.due("23 a board", x.game(3, 0, 0, 0, 1, 0), NONE);
        check.due("23 cell -1", x.game(-1, 0, 0, 0, 1, 0), UNKNOWN);
        check.due("23 cell 4", x.game(4, 0, 0, 0, 1, 0), UNKNOWN);
        int[][] wrong = {
            {-1, 0, 0, 1, 0}, {4, 0, 0, 1, 0}, {0, -1, 0, 1, 0}, {0, 10, 0, 1, 0}, {0, 0, -1, 1, 0},
            {0, 0, Integer.MIN_VALUE, 1, 0}, {0, 0, 0, 0, 0}, {0, 0, 0, 201, 0}, {0, 0, 0, 1, -1}, {0, 0, 0, 1, 4}};
        for (int[] a : wrong) {
            check.due("23 outside", x.game(0, a[0], a[1], a[2], a[3], a[4]), OUTSIDE);
        }
        check.due("23 200 tenths", x.game(0, 3, 9, 0, 200, TENTH), 200);
    }

    private static void lasts() {
        WithEyesBound x = Check.withRing(".../...");
        check.due("24 without players", x.lasts(0, 1, 3, 200, 20), 20);
        x.player(0, 2, 0, 0, 0);
        check.due("24 not yet", x.lasts(0, 1, 0, 1, 20), 20);
        check.due("24 then", x.lasts(0, 1, 0, 2, 20), 0);
        WithEyesBound y = Check.withRing(".../.../...");
        y.player(0, 1, 0, 0, 0);
        for (int m = 1; m <= 20; m++) {
            int due = 0;
            for (int seed = 0; seed < m; seed++) {
                due += after(seed) / 65536 % 10 < 4 ? 1 : 0;
            }
            check.due("24 seeds below " + m, y.lasts(4, 0, 4, 1, m), due);
        }
        check.due("24 a post", Check.withRing(".p/..").lasts(1, 0, 0, 1, 1), UNKNOWN);
        check.due("24 cell 9", y.lasts(9, 9, 0, 1, 1), UNKNOWN);
        int[][] wrong = {{-1, 0, 1, 1}, {4, 0, 1, 1}, {0, -1, 1, 1}, {0, 10, 1, 1}, {0, 0, 0, 1}, {0, 0, 201, 1},
            {0, 0, 1, 0}, {0, 0, 1, 21}};
        for (int[] a : wrong) {
            check.due("24 outside", y.lasts(0, a[0], a[1], a[2], a[3]), OUTSIDE);
        }
    }

    private static void stand() {
        WithEyesBound x = Check.withRing(".../...");
        x.player(0, 4, 0, 0, 0);
        check.due("25 where he begins", x.stand(0, 0, 1, 0, 8, 9), 0);
        check.due("25 all are alike", x.stand(0, 0, 1, 0, 9, 9), 0);
        check.due("25 the least that he leaves", x.stand(0, 3, 0, 0, 1, 9), 1);
        check.due("25 it stays where it was told", x.about(0, 1), 4);
        // He goes to 0, 0, 1, 2, 2, 5, 5, 4: just 3 is left.
        check.due("25 the only one", x.stand(0, 3, 0, 0, 8, 3), 3);
        x.player(0, 3, 0, 0, 0);
        // Another one in the way ends the game: at 3, in the first tenth, so no other cell is touched.
        check.due("25 behind another one", x.stand(0, 4, 3, 0, 50, 2), 0);
        // In the cell of a lesser player it is never touched.
        check.due("25 the lesser one is touched", x.stand(1, 4, 3, 0, 1, 2), 0);
        WithEyesBound y = Check.withRing("p../...");
        y.player(0, 1, 0, 0, 0);
        check.due("25 free cells alone", y.stand(0, 4, 0, 0, 1, 1), 2);
        // By 10 draws of 10 that are below 5 he turns right, else he goes up.
        WithEyesBound z = Check.withRing("p.p/p../ppp");
        z.player(0, 1, 0, 0, 0);
        int up = 0;
        for (int seed = 0; seed < 9; seed++) {
            up += after(seed) / 65536 % 10 >= 5 ? 1 : 0;
        }
        // 4 is where he begins: nobody is touched there in one tenth.
        check.due("25 fewest seeds", z.stand(0, 4, 0, 5, 1, 9), up == 0 ? 1 : 4);
        check.due("25 done", z.count(7), 1);
    }

    private static void standRefusals() {
        WithEyesBound x = Check.withRing(".p/..");
        x.player(0, 0, 0, 0, 0);
        check.due("25 player 1", x.stand(1, 0, 0, 0, 1, 1), UNKNOWN);
        check.due("25 player -1", x.stand(-1, 0, 0, 0, 1, 1), UNKNOWN);
        check.due("25 a post", x.stand(0, 1, 9, 0, 1, 1), UNKNOWN);
        check.due("25 cell 4", x.stand(0, 4, 0, 0, 1, 1), UNKNOWN);
        int[][] wrong = {{-1, 0, 1, 1}, {4, 0, 1, 1}, {0, -1, 1, 1}, {0, 10, 1, 1}, {0, 0, 0, 1}, {0, 0, 51, 1},
            {0, 0, 1, 0}, {0, 0, 1, 10}};
        for (int[] a : wrong) {
            check.due("25 outside", x.stand(0, 0, a[0], a[1], a[2], a[3]), OUTSIDE);
        }
        check.due("25 refusals are not counted", x.count(7), 0);
        x.image();
        for (int i = 1; i <= 19; i++) {
            x.stand(0, 0, 0, 0, 50, 9);
        }
        x.restore();
        check.due("25 counts on", x.count(7), 19);
        Check.write(x, "../..");
        x.ring();
        x.player(0, 0, 0, 0, 0);
        check.due("25 counts on with another ring", x.count(7), 19);
        check.holds("25 the twentieth", x.stand(0, 0, 0, 0, 1, 1) >= 0);
        check.due("25 the next", x.stand(0, 0, 0, 0, 1, 1), STATE);
        check.due("25 OUTSIDE ahead of STATE", x.stand(0, 0, 4, 0, 1, 1), OUTSIDE);
        check.due("25 twenty", x.count(7), 20);
    }
}
