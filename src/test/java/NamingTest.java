/** Promises 26 to 34, worked by hand. */
public final class NamingTest {
    private static final int NONE = -1, UNKNOWN = -101, OUTSIDE = -102, STATE = -103;
    private static final Check check = new Check();

    public static void main(String[] args) {
        feels();
        jackets();
        named();
        says();
        when();
        image();
        imageOfPlayers();
        count();
        digest();
        check.end();
    }

    private static WithEyesBound two() {
        WithEyesBound x = Check.withRing("../..");
        x.player(0, 0, 3, 0, 2);
        x.player(0, 1, 4, 1, 2);
        return x;
    }

    private static void likely(String what, WithEyesBound x, int player, int[] felt, int above, int below) {
        check.due(what + ", above", x.named(player, felt[0], felt[1], felt[2], 0), above);
        check.due(what + ", below", x.named(player, felt[0], felt[1], felt[2], 1), below);
    }

    private static void feels() {
        WithEyesBound x = new WithEyesBound();
        check.due("26 without a ring", x.feels(5, 0, 0), 1);
        check.due("26 the most", x.feels(0, 10, 10), 1);
        int[][] wrong = {{-1, 0, 0}, {6, 0, 0}, {0, -1, 0}, {0, 11, 0}, {0, 0, -1}, {0, 0, 11}};
        for (int[] a : wrong) {
            check.due("26 outside", x.feels(a[0], a[1], a[2]), OUTSIDE);
        }
        Check.write(x, "../..");
        x.ring();
        x.player(0, 0, 5, 0, 0);
        x.player(0, 0, 7, 0, 1);
        check.due("26 refusals change nothing", x.says(6, 0, 0), NONE);
        x.feels(1, 10, 10);
        check.due("26 one more", x.says(6, 0, 0), 0);
        check.due("26 one less", x.says(6, 0, 1), 1);
        check.due("26 two more", x.says(7, 0, 0), NONE);
        x.feels(5, 10, 10);
        check.due("26 never right", x.says(5, 0, 0), NONE);
        x.feels(0, 0, 10);
        check.due("26 cloth never right", x.says(5, 0, 0), NONE);
        check.due("26 cloth of another kind", x.says(5, 1, 0), 0);
        x.feels(0, 10, 0);
        check.due("26 giggle never right", x.says(5, 0, 0), NONE);
        check.due("26 giggle of another kind", x.says(7, 0, 4), 1);
        x.image();
        x.feels(0, 10, 10);
        x.restore();
        check.due("26 is not of the image", x.says(5, 0, 0), 0);
        Check.write(x, "../..");
        x.feels(2, 10, 10);
        x.ring();
        x.player(0, 0, 5, 0, 0);
        check.due("26 goes on with another ring", x.says(4, 0, 0), 0);
    }

    private static void jackets() {
        WithEyesBound x = two();
        int[] felt = {3, 0, 2};
        x.feels(2, 8, 10);
        likely("27 none", x, 0, felt, 48, 49);
        check.due("27 half", x.jackets(0, 1, 5), 1);
        likely("27 half", x, 0, felt, 3, 4);
        check.due("27 surely", x.jackets(1, 0, 10), 1);
        likely("27 surely", x, 0, felt, 3, 19);
        check.due("27 surely not", x.jackets(0, 1, 0), 1);
        likely("27 surely not", x, 0, felt, 48, 49);
        x.jackets(0, 1, 10);
        check.due("27 j -1", x.jackets(0, 1, -1), OUTSIDE);
        check.due("27 j 11", x.jackets(0, 1, 11), OUTSIDE);
        check.due("27 the same", x.jackets(1, 1, 99), UNKNOWN);
        check.due("27 a", x.jackets(2, 1, 5), UNKNOWN);
        check.due("27 b", x.jackets(0, 2, 5), UNKNOWN);
        check.due("27 below", x.jackets(-1, -1, 5), UNKNOWN);
        likely("27 refusals change nothing", x, 0, felt, 3, 19);
        x.player(0, 2, 9, 4, 0);
        x.jackets(1, 2, 10);
        // 0 has its own again: 6 times 32; 1 has cloth 4: 2 times 2.
        likely("27 others are not thought of", x, 0, felt, 48, 49);
        check.due("27 no ring", new WithEyesBound().jackets(0, 1, 5), UNKNOWN);
    }

    private static void named() {
        WithEyesBound x = two();
        likely("28 sure", x, 0, new int[] {3, 0, 2}, 1, 1);
        likely("28 surely not", x, 1, new int[] {3, 0, 2}, 0, 1);
        likely("28 nobody", x, 0, new int[] {3, 1, 2}, NONE, NONE);
        x.feels(1, 6, 3);
        // Size 3: 8 and 1; cloth 3: 4 and 4; giggle 2: 12 and 12.
        likely("28 by size", x, 0, new int[] {3, 3, 2}, 8, 9);
        likely("28 by size, the other", x, 1, new int[] {3, 3, 2}, 1, 9);
        // Size 4: 1 and 8; cloth 0: 24 and 4.
        likely("28 by size and cloth", x, 0, new int[] {4, 0, 0}, 3, 7);
        x.player(0, 0, 4, 1, 4);
        // 1 by 4 by 12, 8 by 24 by 12, 8 by 24 by 7.
        likely("28 by giggle", x, 2, new int[] {4, 1, 2}, 4, 11);
        check.due("28 player 3", x.named(3, 99, 0, 0, 0), UNKNOWN);
        check.due("28 player -1", x.named(-1, 0, 0, 0, 0), UNKNOWN);
        int[][] wrong = {{-1, 0, 0, 0}, {10, 0, 0, 0}, {0, -1, 0, 0}, {0, 5, 0, 0}, {0, 0, -1, 0}, {0, 0, 5, 0},
            {0, 0, 0, -1}, {0, 0, 0, 2}};
        for (int[] a : wrong) {
            check.due("28 outside", x.named(0, a[0], a[1], a[2], a[3]), OUTSIDE);
        }
        check.due("28 the edges", x.named(0, 9, 4, 4, 1), NONE);
        check.due("28 no ring", new WithEyesBound().named(0, 0, 0, 0, 0), UNKNOWN);
    }

    private static void says() {
        WithEyesBound x = two();
        check.due("29 the first", x.says(3, 0, 2), 0);
        check.due("29 the second", x.says(4, 1, 2), 1);
        check.due("29 nobody", x.says(9, 4, 4), NONE);
        x.player(0, 0, 4, 1, 2);
        check.due("29 of like ones the least", x.says(4, 1, 2), 1);
        int[][] wrong = {{-1, 0, 0}, {10, 0, 0}, {0, -1, 0}, {0, 5, 0}, {0, 0, -1}, {0, 0, 5}};
        for (int[] a : wrong) {
            check.due("29 outside", x.says(a[0], a[1], a[2]), OUTSIDE);
            check.due("30 outside", x.when(a[0], a[1], a[2], 0, 0), OUTSIDE);
        }
        check.due("29 OUTSIDE without a ring", new WithEyesBound().says(10, 0, 0), OUTSIDE);
    }

    private static void when() {
        WithEyesBound x = two();
        check.due("30 sure", x.when(3, 0, 2, 1, 99), 1);
        check.due("30 sure, worth nothing", x.when(3, 0, 2, 0, 0), 0);
        check.due("30 nobody", x.when(9, 0, 2, 99, 0), 0);
        x.feels(2, 8, 10);
        x.jackets(0, 1, 5);
        // Three to one.
        check.due("30 worth as much as it costs", x.when(3, 0, 2, 1, 3), 0);
        check.due("30 worth more", x.when(3, 0, 2, 34, 99), 1);
        check.due("30 worth less", x.when(3, 0, 2, 32, 99), 0);
        check.due("30 costs nothing", x.when(3, 0, 2, 1, 0), 1);
        check.due("30 worth -1", x.when(3, 0, 2, -1, 0), OUTSIDE);
        check.due("30 worth 100", x.when(3, 0, 2, 100, 0), OUTSIDE);
        check.due("30 costs -1", x.when(3, 0, 2, 0, -1), OUTSIDE);
        check.due("30 costs 100", x.when(3, 0, 2, 0, 100), OUTSIDE);
    }

    private static void image() {
        WithEyesBound x = new WithEyesBound();
        check.due("31 no ring", x.image(), STATE);
        check.due("32 none was kept", x.restore(), STATE);
        x = Check.withRing("../..");
        check.due("32 none was kept of this ring", x.restore(), STATE);
        x.set(0, 1);
        x.step(1, 0);
        check.due("31 kept", x.image(), 0);
        x.heard(0, 2, 7);
        x.turned(3);
        check.due("32 goes on", x.restore(), 0);
        check.due("32 odds", x.knows(0), 8);
        check.due("32 weights", x.count(4), 2);
        check.due("32 updates", x.count(3), 1);
        x.lost();
        check.due("32 once more", x.restore(), 0);
        check.due("32 odds once more", x.knows(1), 9);
        x.set(3, 3);
        x.image();
        x.lost();
        x.restore();
        check.due("31 the latest", x.likeliest(), 3);
        Check.write(x, "../..");
        check.due("32 the page is not of it", x.restore(), 0);
        check.due("32 the page stays", x.count(5), 5);
        Check.write(x, "?");
        x.ring();
        check.due("32 a ring that was not read", x.restore(), 0);
        x.blank();
        Check.write(x, "../..");
        x.ring();
        check.due("32 a ring of the same text", x.restore(), STATE);
        check.due("31 of the new ring", x.image(), 0);
        check.due("32 of the new ring", x.restore(), 0);
    }

    private static void imageOfPlayers() {
        WithEyesBound x = two();
        x.feels(2, 8, 10);
        x.jackets(0, 1, 5);
        check.due("31 players", x.image(), 2);
        x.move(0, 3);
        x.player(3, 2, 1, 1, 1);
        x.move(2, 3);
        x.jackets(1, 2, 10);
        check.due("32 players", x.restore(), 3);
        check.due("32 where it was told", x.about(0, 1), 0);
        check.due("32 one that came since", x.about(2, 1), 3);
        likely("32 jackets", x, 0, new int[] {3, 0, 2}, 3, 4);
        WithEyesBound y = two();
        y.image();
        y.feels(2, 8, 10);
        y.jackets(0, 1, 5);
        y.restore();
        likely("32 no jackets", y, 0, new int[] {3, 0, 2}, 48, 49);
    }

    private static void count() {
        WithEyesBound x = Check.withRing(".b/px");
        x.player(0, 0, 0, 0, 0);
        x.set(0, 0);
        x.turned(1);
        x.turned(0);
        Check.write(x, "abc");
        x.stand(0, 0, 0, 0, 1, 1);
        int[] due = {4, 2, 1, 2, 3, 3, 1, 1};
        for (int what = 0; what < 8; what++) {
            check.due("33 count(" + what + ")", x.count(what), due[what]);
        }
        check.due("33 what -1", x.count(-1), OUTSIDE);
        check.due("33 what 8", x.count(8), OUTSIDE);
    }

    private static long mixed(long... numbers) {
        long h = 457;
        for (long number : numbers) {
            h = 31 * h + number;
        }
        return h;
    }

    private static void digest() {
        WithEyesBound x = new WithEyesBound();
        x.feels(3, 4, 5);
        Check.write(x, ".~");
        check.due("34 without a ring", x.digest(),
            mixed(3, 4, 5, -1, -1, 0, '.', '~', 0, 0, 0, 0, 0, 2, 0, 0));
        x.blank();
        Check.write(x, ".b/px");
        x.ring();
        check.due("34 without players", x.digest(),
            mixed(0, 1, 2, 3, 1, 1, 1, 1, 1, 1, 1, 1, 0, 0, 0, 0, 0, 0, 0, 0, 3, 4, 5, -1, -1, 0,
                4, 2, 0, 0, 8, 0, 1, 0));
        x.set(1, 2);
        check.due("34 set", x.digest(),
            mixed(0, 1, 2, 3, 0, 0, 0, 0, 0, 0, 1, 0, 0, 0, 0, 0, 0, 0, 0, 0, 3, 4, 5, -1, -1, 0,
                4, 2, 0, 0, 1, 0, 1, 0));
        x.set(0, 1);
        x.turned(2);
        x.player(5, 1, 9, 2, 3);
        x.player(3, 0, 8, 4, 1);
        x.jackets(1, 0, 7);
        Check.write(x, "/");
        int who = x.game(0, 0, 2, 1, 20, 0);
        int tenth = x.game(0, 0, 2, 1, 20, 1);
        check.due("34 with players", x.digest(),
            mixed(0, 1, 2, 3, 1, 3, 1, 0, 0, 0, 0, 0, 0, 0, 0, 0, 0, 0, 0, 0, 5, 1, 9, 2, 3, 3, 0, 8, 4, 1,
                3, 4, 5, 1, 0, 7, who, tenth, '/', 4, 2, 2, 1, 3, 1, 1, 0));
        long before = x.digest();
        x.image();
        x.named(0, 1, 1, 1, 0);
        x.expected(3, 1, 1, 5, 0);
        x.next(1, 1, 5);
        x.lasts(0, 0, 2, 9, 9);
        check.due("34 what is asked changes nothing", x.digest(), before);
        WithEyesBound y = Check.withRing("xp./...");
        y.player(0, 2, 0, 0, 0);
        int first = y.game(2, 0, 2, 1, 20, 0);
        int then = y.game(2, 0, 2, 1, 20, 1);
        long h = mixed(3, 2, 0, 0, 0, 0, 0, 0, 0, 0, 0, 0, 0, 0, 1, 1, 1, 1, 1, 1, 1, 1, 1, 1, 1, 1, 1, 1, 1, 1,
            0, 2, 0, 0, 0, 0, 10, 10, -1, -1, 0, first, then, 6, 4, 1, 0, 16, 0, 1, 0);
        check.due("34 from the first free cell", y.digest(), h);
    }
}
