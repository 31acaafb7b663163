/** Promises 7 to 18, worked by hand. */
public final class OddsTest {
    private static final int UNKNOWN = -101, OUTSIDE = -102, STATE = -103, FULL = -104;
    private static final long NO_POST = -1000000000000000001L, POST_OUTSIDE = -1000000000000000002L,
            POST_STATE = -1000000000000000003L;
    private static final Check check = new Check();

    public static void main(String[] args) {
        withoutRing();
        set();
        lost();
        turned();
        step();
        heard();
        whereItLies();
        odds();
        ways();
        likeliestAndKnows();
        expected();
        expectedRefusals();
        next();
        post();
        check.end();
    }

    private static void withoutRing() {
        WithEyesBound x = new WithEyesBound();
        check.due("7 no ring", x.set(0, 9), UNKNOWN);
        check.due("8 no ring", x.lost(), STATE);
        check.due("9 no ring", x.turned(9), STATE);
        check.due("10 no ring", x.step(9, 9), STATE);
        check.due("11 no ring", x.heard(0, 9, 99), UNKNOWN);
        check.due("12 no ring", x.odds(0, 9), UNKNOWN);
        check.due("13 no ring", x.ways(9, 9), STATE);
        check.due("14 no ring", x.likeliest(), STATE);
        check.due("15 no ring", x.knows(9), STATE);
        check.due("16 no ring", x.expected(9, 9, 0, 0, 9), STATE);
        check.due("16 no ring, a call", x.expected(3, 0, 0, 0, 0), STATE);
        check.due("17 no ring", x.next(9, 0, 0), STATE);
        check.due("18 no ring", x.post(0, 9, 9), NO_POST);
    }

    private static void fraction(String what, WithEyesBound x, int cell, long above, long below) {
        check.due(what + ", above", x.odds(cell, 0), above);
        check.due(what + ", below", x.odds(cell, 1), below);
    }

    private static void wayFraction(String what, WithEyesBound x, int way, long above, long below) {
        check.due(what + ", above", x.ways(way, 0), above);
        check.due(what + ", below", x.ways(way, 1), below);
    }

    private static void set() {
        WithEyesBound x = Check.withRing(".b/px");
        check.due("7 floor", x.set(0, 0), 1);
        check.due("7 board", x.set(1, 3), 1);
        check.due("7 one weight", x.count(4), 1);
        fraction("7 there", x, 1, 1, 1);
        wayFraction("7 that way", x, 3, 1, 1);
        check.due("7 a post", x.set(2, 0), UNKNOWN);
        check.due("7 outside", x.set(3, 0), UNKNOWN);
        check.due("7 below", x.set(-1, 0), UNKNOWN);
        check.due("7 beyond", x.set(4, 0), UNKNOWN);
        check.due("7 way -1", x.set(0, -1), OUTSIDE);
        check.due("7 way 4", x.set(0, 4), OUTSIDE);
        check.due("7 UNKNOWN ahead of OUTSIDE", x.set(2, 4), UNKNOWN);
        fraction("7 refusals change nothing", x, 1, 1, 1);
        x.turned(1);
        check.due("7 one update", x.count(3), 1);
        x.set(0, 0);
        check.due("7 updates end", x.count(3), 0);
    }

    private static void lost() {
        WithEyesBound x = Check.withRing(".b/px");
        x.set(0, 0);
        x.turned(3);
        check.due("8 weights", x.lost(), 8);
        check.due("8 updates end", x.count(3), 0);
        fraction("8 floor", x, 0, 1, 2);
        fraction("8 board", x, 1, 1, 2);
        wayFraction("8 each way", x, 2, 1, 4);
    }

    private static void turned() {
        WithEyesBound x = Check.withRing("../..");
        x.set(0, 0);
        check.due("9 by 2", x.turned(2), 3);
        wayFraction("9 as he did", x, 0, 3, 5);
        wayFraction("9 right", x, 1, 1, 5);
        wayFraction("9 behind", x, 2, 0, 1);
        wayFraction("9 left", x, 3, 1, 5);
        fraction("9 the cell", x, 0, 1, 1);
        check.due("9 by 0", x.turned(0), 3);
        check.due("9 that is an update", x.count(3), 2);
        check.due("9 by 5", x.turned(5), 4);
        // Of 3 up, 1 right, 1 left: up 2 halves, right and left 3 halves each, down 2 halves.
        wayFraction("9 up", x, 0, 1, 5);
        wayFraction("9 right of up", x, 1, 3, 10);
        wayFraction("9 down", x, 2, 1, 5);
        wayFraction("9 left of up", x, 3, 3, 10);
        check.due("9 by -1", x.turned(-1), OUTSIDE);
        check.due("9 by 6", x.turned(6), OUTSIDE);
        check.due("9 refusals are no updates", x.count(3), 3);
        for (int i = 4; i <= 9; i++) {
            check.due("9 update " + i, x.turned(1), 4);
        }
        check.due("9 the tenth", x.turned(1), FULL);
        check.due("9 OUTSIDE ahead of FULL", x.turned(6), OUTSIDE);
        check.due("9 nine were", x.count(3), 9);
        x.set(1, 1);
        check.due("9 goes on behind set()", x.turned(5), 2);
        wayFraction("9 none as he did", x, 1, 0, 1);
    }

    private static void step() {
        WithEyesBound x = Check.withRing(".b/p.");
        x.set(0, 1);
        check.due("10 a board", x.step(1, 3), 1);
        check.due("10 is there", x.likeliest(), 1);
        x.set(0, 1);
        check.due("10 the rope", x.step(1, 1), 1);
        check.due("10 stays at the rope", x.likeliest(), 0);
        wayFraction("10 looks up", x, 0, 1, 1);
        x.set(0, 1);
        check.due("10 a post", x.step(1, 2), 1);
        check.due("10 stays at the post", x.likeliest(), 0);
        wayFraction("10 looks down", x, 2, 1, 1);
        x.set(0, 1);
        check.due("10 floor cannot be", x.step(1, 0), STATE);
        check.due("10 no update", x.count(3), 0);
        wayFraction("10 looks as he did", x, 1, 1, 1);
        check.due("10 without drift no rope", x.step(0, 1), STATE);
        check.due("10 with drift 5 no board", x.step(5, 3), STATE);
        x.set(1, 2);
        check.due("10 floor from a board", x.step(0, 0), 1);
        check.due("10 down", x.likeliest(), 3);
        check.due("10 drift -1", x.step(-1, 0), OUTSIDE);
        check.due("10 drift 6", x.step(6, 0), OUTSIDE);
        check.due("10 felt -1", x.step(0, -1), OUTSIDE);
        check.due("10 felt 4", x.step(0, 4), OUTSIDE);
        for (int i = x.count(3); i < 9; i++) {
            x.turned(0);
        }
        check.due("10 full", x.step(0, 1), FULL);
        check.due("10 FULL ahead of what cannot be", x.step(0, 3), FULL);
        check.due("10 OUTSIDE ahead of FULL", x.step(0, 4), OUTSIDE);

        WithEyesBound y = Check.withRing("../..");
        y.set(0, 1);
        check.due("10 drifts", y.step(1, 0), 2);
        fraction("10 straight", y, 1, 8, 9);
        fraction("10 to the right", y, 2, 1, 9);
        WithEyesBound z = Check.withRing("x./..");
        z.set(3, 0);
        z.step(0, 0);
        z.set(1, 3);
        check.due("10 an outside cell is the rope", z.step(0, 1), 1);
        z.set(1, 3);
        check.due("10 and no post", z.step(0, 2), STATE);
    }

    private static void heard() {
        WithEyesBound x = Check.withRing("../..");
        check.due("11 sure", x.heard(0, 0, 10), 7);
        for (int cell = 0; cell < 4; cell++) {
            fraction("11 cell " + cell, x, cell, 1, 4);
        }
        wayFraction("11 up", x, 0, 9, 16);
        wayFraction("11 right", x, 1, 1, 16);
        wayFraction("11 down", x, 2, 1, 16);
        wayFraction("11 left", x, 3, 5, 16);
        x.lost();
        check.due("11 from behind", x.heard(0, 2, 10), 7);
        wayFraction("11 behind: down", x, 2, 9, 16);
        wayFraction("11 behind: right", x, 1, 5, 16);
        x.lost();
        check.due("11 from the right", x.heard(0, 1, 10), 7);
        wayFraction("11 right: left", x, 3, 9, 16);
        wayFraction("11 right: down", x, 2, 5, 16);
        x.lost();
        check.due("11 from the left", x.heard(0, 3, 10), 7);
        wayFraction("11 left: right", x, 1, 9, 16);
        wayFraction("11 left: up", x, 0, 5, 16);
        x.lost();
        check.due("11 half right", x.heard(0, 0, 5), 16);
        // In cell 0 15 each, elsewhere 30 once and 10 three times.
        fraction("11 half right in his own cell", x, 0, 1, 4);
        wayFraction("11 half right, up", x, 0, 17, 48);
        x.set(1, 3);
        check.due("11 never right", x.heard(0, 0, 0), STATE);
        check.due("11 is no update", x.count(3), 0);
        check.due("11 always right", x.heard(0, 1, 10), STATE);
        check.due("11 never right, elsewhere", x.heard(0, 1, 0), 1);
        check.due("11 his own cell", x.heard(1, 2, 10), 1);
        check.due("11 his own cell, never right", x.heard(1, 2, 0), 1);
        check.due("11 from -1", x.heard(0, -1, 5), OUTSIDE);
        check.due("11 from 4", x.heard(0, 4, 5), OUTSIDE);
        check.due("11 right -1", x.heard(0, 0, -1), OUTSIDE);
        check.due("11 right 11", x.heard(0, 0, 11), OUTSIDE);
        check.due("11 cell 4", x.heard(4, 9, 5), UNKNOWN);
        check.due("11 cell -1", x.heard(-1, 0, 5), UNKNOWN);
        for (int i = x.count(3); i < 9; i++) {
            x.turned(0);
        }
        check.due("11 full", x.heard(0, 0, 5), FULL);
        check.due("11 FULL ahead of what cannot be", x.heard(0, 0, 0), FULL);
        check.due("11 OUTSIDE ahead of FULL", x.heard(0, 0, 11), OUTSIDE);
        WithEyesBound y = Check.withRing(".p/xb");
        check.due("11 a post", y.heard(1, 0, 5), UNKNOWN);
        check.due("11 outside", y.heard(2, 0, 5), UNKNOWN);
        check.due("11 a board", y.heard(3, 0, 5), 8);
    }

    /** From the middle of five by five each cell lies in one of four ways. */
    private static void whereItLies() {
        WithEyesBound x = Check.withRing("...../...../...../...../.....");
        int[] lies = {
            0, 0, 0, 0, 0,
            3, 0, 0, 0, 1,
            3, 3, 9, 1, 1,
            3, 2, 2, 2, 1,
            2, 2, 2, 2, 2};
        for (int cell = 0; cell < 25; cell++) {
            for (int from = 0; from < 4; from++) {
                x.set(12, 0);
                int due = lies[cell] == 9 || lies[cell] == from ? 1 : STATE;
                check.due("11 cell " + cell + " from " + from, x.heard(cell, from, 10), due);
                x.set(12, 3);
                int turned = lies[cell] == 9 || (lies[cell] + 1) % 4 == from ? 1 : STATE;
                check.due("11 looking left, cell " + cell + " from " + from, x.heard(cell, from, 10), turned);
            }
        }
    }

    private static void odds() {
        WithEyesBound x = Check.withRing(".b/p.");
        fraction("12 lost", x, 3, 1, 3);
        fraction("12 of a post", x, 2, 0, 1);
        check.due("12 below", x.odds(-1, 0), UNKNOWN);
        check.due("12 beyond", x.odds(4, 0), UNKNOWN);
        check.due("12 UNKNOWN ahead of OUTSIDE", x.odds(4, 2), UNKNOWN);
        check.due("12 part -1", x.odds(0, -1), OUTSIDE);
        check.due("12 part 2", x.odds(0, 2), OUTSIDE);
    }

    private static void ways() {
        WithEyesBound x = Check.withRing(".b/p.");
        wayFraction("13 lost", x, 1, 1, 4);
        check.due("13 way -1", x.ways(-1, 0), OUTSIDE);
        check.due("13 way 4", x.ways(4, 0), OUTSIDE);
        check.due("13 part -1", x.ways(0, -1), OUTSIDE);
        check.due("13 part 2", x.ways(0, 2), OUTSIDE);
    }

    private static void likeliestAndKnows() {
        WithEyesBound x = Check.withRing("p./.b");
        check.due("14 of like ones the least", x.likeliest(), 1);
        check.due("15 lost, above", x.knows(0), 1);
        check.due("15 lost, below", x.knows(1), 3);
        check.due("15 part -1", x.knows(-1), OUTSIDE);
        check.due("15 part 2", x.knows(2), OUTSIDE);
        WithEyesBound y = Check.withRing("../..");
        y.set(0, 1);
        y.step(1, 0);
        check.due("14 the greatest", y.likeliest(), 1);
        check.due("15 above", y.knows(0), 8);
        check.due("15 below", y.knows(1), 9);
        y.set(3, 0);
        check.due("14 the last", y.likeliest(), 3);
        check.due("15 sure", y.knows(0), 1);
    }

    private static void expect(WithEyesBound x, int doing, int drift, int cell, int right, long above, long below) {
        String what = "16 expected(" + doing + ", " + drift + ", " + cell + ", " + right + ")";
        check.due(what + ", above", x.expected(doing, drift, cell, right, 0), above);
        check.due(what + ", below", x.expected(doing, drift, cell, right, 1), below);
    }

    private static void expected() {
        WithEyesBound x = Check.withRing("../..");
        expect(x, 0, 0, 0, 0, 1, 4);
        expect(x, 3, 0, 0, 10, 1, 4);
        x.set(0, 1);
        expect(x, 0, 0, 0, 0, 1, 1);
        expect(x, 0, 1, 0, 0, 9, 10);
        expect(x, 1, 1, 0, 0, 1, 1);
        expect(x, 2, 1, 0, 0, 9, 10);
        expect(x, 3, 1, 2, 0, 1, 1);
        check.due("16 changes nothing", x.count(3), 0);
        x.step(1, 0);
        // 8 in cell 1 looking right, 1 in cell 2 looking down; a call from 0 lies behind both.
        expect(x, 3, 0, 0, 10, 8, 9);
        // From 3: to the right of 1's look, to the left of 2's: always known.
        expect(x, 3, 0, 3, 10, 1, 1);
        // Told by one in four: 240 of 270 whatever he hears.
        expect(x, 3, 0, 0, 5, 8, 9);
    }

    private static void expectedRefusals() {
        WithEyesBound x = Check.withRing(".p/..");
        check.due("16 doing -1", x.expected(-1, 0, 0, 0, 0), OUTSIDE);
        check.due("16 doing 4", x.expected(4, 0, 0, 0, 0), OUTSIDE);
        check.due("16 drift -1", x.expected(0, -1, 0, 0, 0), OUTSIDE);
        check.due("16 drift 6", x.expected(3, 6, 9, 0, 0), OUTSIDE);
        check.due("16 part 2", x.expected(3, 0, 9, 0, 2), OUTSIDE);
        check.due("16 part -1", x.expected(3, 0, 9, 0, -1), OUTSIDE);
        check.due("16 cell of a call", x.expected(3, 0, 4, 99, 0), UNKNOWN);
        check.due("16 a post", x.expected(3, 0, 1, 99, 0), UNKNOWN);
        check.due("16 right of a call", x.expected(3, 0, 0, 11, 0), OUTSIDE);
        check.due("16 right of a call below", x.expected(3, 0, 0, -1, 0), OUTSIDE);
        check.holds("16 cell is not looked at else", x.expected(0, 0, -5, 99, 0) > 0);
        check.holds("16 nor by a turn", x.expected(2, 0, 99, -1, 1) > 0);
        for (int i = 0; i < 7; i++) {
            x.turned(1);
        }
        check.holds("16 seven updates", x.expected(0, 0, 0, 0, 1) > 0);
        check.holds("17 seven updates", x.next(0, 0, 0) >= 0);
        check.holds("18 seven updates", x.post(1, 0, 1) > 0);
        x.turned(1);
        check.due("16 eight updates", x.expected(0, 0, 0, 0, 1), STATE);
        check.due("16 OUTSIDE ahead of STATE", x.expected(3, 0, 0, 11, 1), OUTSIDE);
        check.due("16 UNKNOWN ahead of STATE", x.expected(3, 0, 4, 0, 1), UNKNOWN);
        check.due("17 eight updates", x.next(0, 0, 0), STATE);
        check.due("18 eight updates", x.post(1, 0, 1), POST_STATE);
        check.due("18 OUTSIDE ahead of STATE", x.post(1, 6, 1), POST_OUTSIDE);
        check.due("18 UNKNOWN ahead of STATE", x.post(0, 0, 1), NO_POST);
    }

    private static void next() {
        WithEyesBound x = Check.withRing("../..");
        check.due("17 all alike", x.next(0, 0, 10), 0);
        x.set(0, 1);
        check.due("17 sure by a turn", x.next(1, 0, 10), 1);
        check.due("17 sure by all", x.next(0, 0, 10), 0);
        x.set(0, 0);
        check.due("17 sure by a step", x.next(1, 0, 10), 0);
        // In the middle of three by three each step may go three ways, unfelt: just a call leaves him sure.
        WithEyesBound y = Check.withRing(".../.../...");
        y.set(4, 0);
        check.due("17 a call", y.next(1, 0, 0), 3);
        check.due("17 drift 6", x.next(6, 9, 99), OUTSIDE);
        check.due("17 drift -1", x.next(-1, 9, 99), OUTSIDE);
        check.due("17 cell", x.next(0, 4, 99), UNKNOWN);
        check.due("17 cell -1", x.next(0, -1, 99), UNKNOWN);
        check.due("17 right 11", x.next(0, 0, 11), OUTSIDE);
        check.due("17 right -1", x.next(0, 0, -1), OUTSIDE);
        check.due("17 a post", Check.withRing(".p/..").next(0, 1, 0), UNKNOWN);
        nextOfTwo();
    }

    /** He is 8 in 9 times straight on from a cell, else to the right of it, each looking where he went. */
    private static WithEyesBound inTwoCells(String ring, int cell, int way) {
        WithEyesBound x = Check.withRing(ring);
        x.set(cell, way);
        check.due("17 two cells in " + ring, x.step(1, 0), 2);
        return x;
    }

    private static void nextOfTwo() {
        // In 1 looking right and 3 looking down: ahead the rope; the turns feel floor in one of both alone.
        WithEyesBound x = inTwoCells("..x/..x/xxx", 0, 1);
        expect(x, 0, 0, 0, 0, 8, 9);
        expect(x, 1, 0, 0, 0, 1, 1);
        expect(x, 2, 0, 0, 0, 1, 1);
        check.due("17 the least of two turns", x.next(0, 0, 10), 1);
        // In 6 looking left and 4 looking up: the rope on all sides, but for the post to the right of 4.
        check.due("17 the turn to the right", inTwoCells("xxx/x.p/..x/xpx", 7, 3).next(0, 7, 10), 2);
        // In 1 looking right and 3 looking down: the rope on all sides. A call from 0 lies behind both,
        // one from 3 to the right of 1: there 480 of 480, else 15 of 15, by 540 in all.
        WithEyesBound y = inTwoCells("..x/.xx/xxx", 0, 1);
        expect(y, 3, 0, 3, 10, 35, 36);
        check.due("17 nothing tells", y.next(0, 0, 10), 0);
        check.due("17 a call tells", y.next(0, 3, 10), 3);
        // In 6 looking left and 4 looking up: the rope and a post.
        check.due("17 a post ahead tells", inTwoCells("xpx/p.p/..x/xxx", 7, 3).next(0, 7, 10), 0);
    }

    private static void worth(WithEyesBound x, int cell, int drift, long above, long below) {
        String what = "18 post(" + cell + ", " + drift + ")";
        check.due(what + ", above", x.post(cell, drift, 0), above);
        check.due(what + ", below", x.post(cell, drift, 1), below);
    }

    private static void post() {
        WithEyesBound x = Check.withRing("..p/..x");
        x.set(0, 1);
        x.step(1, 0);
        worth(x, 2, 0, 1, 9);
        check.due("18 changes nothing", x.cell(2), 2);
        WithEyesBound y = Check.withRing("..p/..x/pxx");
        y.set(0, 1);
        y.step(1, 0);
        worth(y, 2, 0, -1, 9);
        worth(y, 6, 0, -1, 9);
        WithEyesBound z = Check.withRing(".p/..");
        worth(z, 1, 0, 0, 1);
        check.due("18 floor", z.post(0, 9, 9), NO_POST);
        check.due("18 beyond", z.post(4, 0, 0), NO_POST);
        check.due("18 below", z.post(-1, 0, 0), NO_POST);
        check.due("18 outside", x.post(5, 0, 0), NO_POST);
        check.due("18 drift 6", z.post(1, 6, 0), POST_OUTSIDE);
        check.due("18 drift -1", z.post(1, -1, 0), POST_OUTSIDE);
        check.due("18 part 2", z.post(1, 0, 2), POST_OUTSIDE);
        check.due("18 part -1", z.post(1, 0, -1), POST_OUTSIDE);
    }
}
