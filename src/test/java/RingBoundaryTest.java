/** Promises 1 to 6 and the text of THE RING: a test for each sentence that names a boundary case. */
public final class RingBoundaryTest {
    private static final int NONE = Check.NONE, UNKNOWN = Check.UNKNOWN, OUTSIDE = Check.OUTSIDE,
        STATE = Check.STATE, FULL = Check.FULL;
    private static final long EIGHT = 0x2e2e2e2e2e2e2e2eL;
    private static final Check check = new Check();

    public static void main(String[] args) throws Exception {
        Sentences.testEach(RingBoundaryTest.class, check);
    }

    private static void isRing(String text, int cells) {
        WithEyesBound x = new WithEyesBound();
        Check.write(x, text);
        check.due("fault() of " + text, x.fault(), text.length());
        check.due("ring() of " + text, x.ring(), cells);
    }

    /** No RING: either a letter is wrong, or (fault is the length) letters are missing. */
    private static void noRing(String text, int fault) {
        WithEyesBound x = Check.withRing("b./..");
        Check.write(x, text);
        check.due("fault() of " + text, x.fault(), fault);
        check.refused("ring() of " + text, x, x::ring, STATE);
        check.due("THE PAGE behind " + text, x.count(5), text.length());
    }

    private static String rows(int rows, int wide) {
        return (".".repeat(wide) + "/").repeat(rows - 1) + ".".repeat(wide);
    }

    private static WithEyesBound withPage(int letters) {
        WithEyesBound x = new WithEyesBound();
        Check.write(x, ".".repeat(letters));
        return x;
    }

    // ---- the text of THE RING

    @Sentence(promise = 0, says = "two to six ROWS")
    private static void rowsTwoToSix() {
        for (int wide = 2; wide <= 6; wide++) {
            noRing(rows(1, wide), wide);
            for (int rows = 2; rows <= 6; rows++) {
                isRing(rows(rows, wide), rows * wide);
            }
            String seven = rows(7, wide);
            noRing(seven.substring(0, Math.min(45, seven.length())), 6 * wide + 5);
        }
    }

    @Sentence(promise = 0, says = "with \"/\" between")
    private static void justBetween() {
        noRing("/../..", 0);
        noRing("..//..", 3);
        noRing("../../", 6);
        noRing("../../../../../../", 17);
        noRing("....", 4);
        noRing("..\\..", 2);
    }

    @Sentence(promise = 0, says = "each of two to six letters")
    private static void lettersTwoToSix() {
        for (int rows = 2; rows <= 6; rows++) {
            noRing(rows(rows, 1), 1);
            isRing(rows(rows, 2), rows * 2);
            isRing(rows(rows, 6), rows * 6);
        }
        noRing(rows(2, 7), 6);
        noRing(rows(5, 7), 6);
    }

    @Sentence(promise = 0, says = "(all as many)")
    private static void allAsMany() {
        noRing("../.", 4);
        noRing("../.../..", 5);
        noRing(".../..", 6);
        noRing(".../../...", 6);
        noRing("../../...", 8);
        noRing("../../.", 7);
        noRing("...../......", 11);
        noRing("....../.....", 12);
        noRing("....../...../......", 12);
    }

    @Sentence(promise = 0, says = "\".\" FLOOR, \"b\" BOARD, \"p\" POST, \"x\" OUTSIDE.")
    private static void fourLetters() {
        for (int code = 1; code <= 126; code++) {
            int kind = ".bpx".indexOf((char) code);
            WithEyesBound x = new WithEyesBound();
            x.letters(code);
            check.due("fault() of the letter " + code, x.fault(), kind < 0 ? 0 : 1);
            Check.write(x, "./..");
            check.due("ring() with the letter " + code, x.ring(), kind < 0 ? STATE : 4);
            check.due("cell() of the letter " + code, x.cell(0), kind < 0 ? UNKNOWN : kind);
        }
    }

    @Sentence(promise = 0, says = "CELLS are numbered row by row")
    private static void rowByRow() {
        WithEyesBound x = Check.withRing(".....b/p....x");
        int[] wide = {0, 0, 0, 0, 0, 1, 2, 0, 0, 0, 0, 3};
        for (int cell = 0; cell < 12; cell++) {
            check.due("cell " + cell + " of two rows", x.cell(cell), wide[cell]);
        }
        WithEyesBound y = Check.withRing(".b/../p./../../.x");
        int[] narrow = {0, 1, 0, 0, 2, 0, 0, 0, 0, 0, 0, 3};
        for (int cell = 0; cell < 12; cell++) {
            check.due("cell " + cell + " of six rows", y.cell(cell), narrow[cell]);
        }
    }

    @Sentence(promise = 0, says = "FLOOR and BOARDS are FREE")
    private static void floorAndBoards() {
        WithEyesBound x = Check.withRing(".b/px");
        check.due("FREE ones", x.count(1), 2);
        check.due("a FLOOR", x.set(0, 0), 1);
        check.due("a BOARD", x.set(1, 0), 1);
        check.refused("a POST", x, () -> x.set(2, 0), UNKNOWN);
        check.refused("an OUTSIDE one", x, () -> x.set(3, 0), UNKNOWN);
    }

    /** A row's end is beyond, not the next row's begin; the last row's below is not the first row. */
    @Sentence(promise = 0, says = "What is beyond is OUTSIDE.")
    private static void beyondIsOutside() {
        WithEyesBound x = Check.withRing(".../...");
        int[][] edges = {{0, 0}, {1, 0}, {2, 0}, {2, 1}, {5, 1}, {5, 2}, {4, 2}, {3, 2}, {3, 3}, {0, 3}};
        for (int[] edge : edges) {
            String where = "from " + edge[0] + " to " + edge[1];
            x.set(edge[0], edge[1]);
            check.refused(where + " FLOOR", x, () -> x.step(0, 0), STATE);
            check.due(where + " the ROPE", x.step(0, 1), 1);
            check.due(where + " he stays", x.likeliest(), edge[0]);
            check.due(where + " he looks as he did", x.ways(edge[1], 0), 1);
        }
    }

    @Sentence(promise = 0, says = "the next one of a WAY is to its right")
    private static void nextWayWrapsAround() {
        WithEyesBound x = Check.withRing(".../.../...");
        int[] lies = {1, 5, 7, 3};
        for (int way = 0; way < 4; way++) {
            for (int from = 0; from < 4; from++) {
                for (int on = 0; on < 4; on++) {
                    x.set(4, way);
                    check.due("looking " + way + ", a call " + on + " WAYS on, heard from " + from,
                        x.heard(lies[(way + on) % 4], from, 10), from == on ? 1 : STATE);
                }
            }
        }
    }

    // ---- 1 a new object

    @Sentence(promise = 1, says = "No RING")
    private static void newWithoutRing() {
        WithEyesBound x = new WithEyesBound();
        for (int cell : new int[] {-1, 0, 1, 35, 36}) {
            check.due("cell(" + cell + ")", x.cell(cell), UNKNOWN);
        }
        check.due("CELLS", x.count(0), 0);
        check.due("FREE ones", x.count(1), 0);
        check.due("UPDATES", x.count(3), 0);
        check.due("weights", x.count(4), 0);
        check.due("letters", x.count(5), 0);
        check.due("fault()", x.fault(), 0);
        check.due("RINGS read", x.count(6), 0);
        check.refused("ring()", x, x::ring, STATE);
        check.refused("lost()", x, x::lost, STATE);
        check.refused("image()", x, x::image, STATE);
        check.refused("restore()", x, x::restore, STATE);
    }

    @Sentence(promise = 1, says = "no PLAYERS")
    private static void newWithoutPlayers() {
        WithEyesBound x = new WithEyesBound();
        check.due("PLAYERS", x.count(2), 0);
        for (int player : new int[] {-1, 0, 1, 5, 6}) {
            check.refused("about(" + player + ")", x, () -> x.about(player, 0), UNKNOWN);
            check.refused("as(" + player + ")", x, () -> x.as(player, 0), UNKNOWN);
            check.refused("move(" + player + ")", x, () -> x.move(player, 0), UNKNOWN);
            check.refused("named(" + player + ")", x, () -> x.named(player, 0, 0, 0, 0), UNKNOWN);
        }
        check.due("says()", x.says(0, 0, 0), NONE);
        check.due("when()", x.when(0, 0, 0, 99, 0), 0);
        check.due("stand() done", x.count(7), 0);
    }

    @Sentence(promise = 1, says = "what he feels is right in all tenths")
    private static void newFeelsRight() {
        check.due("digest()", new WithEyesBound().digest(), Told.weights().digestOf(new WithEyesBound()));
        WithEyesBound x = Check.withRing("../..");
        x.player(0, 0, 5, 2, 3);
        for (int size = 0; size <= 9; size++) {
            check.due("size " + size, x.says(size, 2, 3), size == 5 ? 0 : NONE);
        }
        for (int number = 0; number <= 4; number++) {
            check.due("cloth " + number, x.says(5, number, 3), number == 2 ? 0 : NONE);
            check.due("giggle " + number, x.says(5, 2, number), number == 3 ? 0 : NONE);
        }
    }

    // ---- 2 letters

    @Sentence(promise = 2, says = "up to eight")
    private static void upToEight() {
        for (int letters = 0; letters <= 8; letters++) {
            WithEyesBound x = new WithEyesBound();
            long w = letters == 0 ? 0 : EIGHT >>> 8 * (8 - letters);
            check.due(letters + " letters", x.letters(w), letters);
            check.due(letters + " letters are counted", x.count(5), letters);
        }
    }

    @Sentence(promise = 2, says = "the lowest byte first")
    private static void lowestFirst() {
        WithEyesBound x = new WithEyesBound();
        x.letters(0x7062_2e2f_782e_6270L);
        check.due("eight letters", x.digest(), Told.weights().page("pb.x/.bp").digestOf(x));
        x.letters('x' << 8 | '/');
        check.due("behind those", x.digest(), Told.weights().page("pb.x/.bp/x").digestOf(x));
    }

    @Sentence(promise = 2, says = "until a byte that is 0")
    private static void untilNought() {
        WithEyesBound x = new WithEyesBound();
        check.due("none on an empty PAGE", x.letters(0), 0);
        check.due("one", x.letters('b'), 1);
        check.due("none behind one", x.letters(0), 1);
        check.due("just the one", x.digest(), Told.weights().page("b").digestOf(x));
        Check.write(x, ".".repeat(44));
        check.due("none on a full PAGE", x.letters(0), 45);
    }

    @Sentence(promise = 2, says = "OUTSIDE: a byte above 126")
    private static void byteAbove126() {
        for (int place = 0; place < 8; place++) {
            long ahead = place == 0 ? 0 : EIGHT >>> 8 * (8 - place);
            for (long code : new long[] {127, 128, 129, 174, 254, 255}) {
                WithEyesBound x = withPage(3);
                long w = ahead | code << 8 * place;
                check.refused(code + " at " + place, x, () -> x.letters(w), OUTSIDE);
            }
            for (long code : new long[] {1, 125, 126}) {
                WithEyesBound x = withPage(3);
                check.due(code + " at " + place, x.letters(ahead | code << 8 * place), 4 + place);
            }
        }
        WithEyesBound x = withPage(3);
        check.refused("all bytes 255", x, () -> x.letters(-1L), OUTSIDE);
        check.refused("the least long", x, () -> x.letters(Long.MIN_VALUE), OUTSIDE);
        check.refused("the greatest long", x, () -> x.letters(Long.MAX_VALUE), OUTSIDE);
    }

    @Sentence(promise = 2, says = "or one behind a 0 that is not 0")
    private static void behindNought() {
        WithEyesBound x = withPage(3);
        for (int gap = 0; gap < 7; gap++) {
            long ahead = gap == 0 ? 0 : EIGHT >>> 8 * (8 - gap);
            for (int place = gap + 1; place < 8; place++) {
                long w = ahead | 1L << 8 * place;
                check.refused("0 at " + gap + ", 1 at " + place, x, () -> x.letters(w), OUTSIDE);
            }
        }
    }

    @Sentence(promise = 2, says = "FULL: above 45.")
    private static void aboveFortyFive() {
        for (int more = 1; more <= 8; more++) {
            long w = EIGHT >>> 8 * (8 - more);
            check.due(more + " letters up to 45", withPage(45 - more).letters(w), 45);
            WithEyesBound x = withPage(46 - more);
            check.refused(more + " letters up to 46", x, () -> x.letters(w), FULL);
            check.due("not one of " + more + " came", x.count(5), 46 - more);
            WithEyesBound y = withPage(45);
            check.refused(more + " letters behind 45", y, () -> y.letters(w), FULL);
            check.refused("OUTSIDE ahead of FULL", y, () -> y.letters(w << 8), OUTSIDE);
            check.refused("OUTSIDE ahead of FULL, above 126", y, () -> y.letters(w | 255), OUTSIDE);
        }
    }

    // ---- 3 blank

    @Sentence(promise = 3, says = "THE PAGE is empty")
    private static void blankEmpties() {
        WithEyesBound x = withPage(45);
        x.blank();
        check.due("letters", x.count(5), 0);
        check.due("fault()", x.fault(), 0);
        check.refused("ring()", x, x::ring, STATE);
        check.due("letters may come again", x.letters(EIGHT), 8);
        WithEyesBound y = Check.withRing("b./..");
        y.set(1, 1);
        long before = y.digest();
        y.letters('.');
        y.blank();
        check.due("THE RING and HIS ODDS stay", y.digest(), before);
    }

    @Sentence(promise = 3, says = "how many letters it had")
    private static void blankTellsHowMany() {
        for (int letters : new int[] {0, 1, 8, 44, 45}) {
            WithEyesBound x = withPage(letters);
            check.due(letters + " letters", x.blank(), letters);
            check.due("then none", x.blank(), 0);
        }
    }

    // ---- 4 fault

    private static void faultOf(String text, int due) {
        WithEyesBound x = new WithEyesBound();
        Check.write(x, text);
        long before = x.digest();
        check.due("fault() of " + text, x.fault(), due);
        check.due("fault() of " + text + " once more", x.fault(), due);
        check.due("it changes nothing", x.digest(), before);
    }

    @Sentence(promise = 4, says = "the first letter of THE PAGE that no RING has there")
    private static void firstFault() {
        faultOf("a", 0);
        faultOf("/", 0);
        faultOf(".a", 1);
        faultOf("aa", 0);
        faultOf("..a/..a", 2);
        faultOf("../.a", 4);
        faultOf("../..a", 5);
        faultOf(rows(6, 6) + ".", 41);
        faultOf(rows(6, 6) + "/", 41);
        faultOf(rows(6, 6) + "a/..", 41);
        faultOf(".".repeat(45), 6);
        faultOf("/".repeat(45), 0);
        faultOf(rows(6, 6).substring(0, 40) + "a", 40);
    }

    @Sentence(promise = 4, says = "behind those ahead of it")
    private static void faultBehindThoseAhead() {
        faultOf("./", 1);
        faultOf(".../..", 6);
        faultOf(".../../", 6);
        faultOf("../...", 5);
        faultOf("......", 6);
        faultOf(".......", 6);
        faultOf("..../.....", 9);
        faultOf("....../......", 13);
        faultOf("../../../../../../", 17);
        faultOf("../../../../../..", 17);
    }

    @Sentence(promise = 4, says = "how many letters it has, if there is none")
    private static void noFault() {
        faultOf("", 0);
        faultOf(".", 1);
        faultOf("..", 2);
        faultOf("../", 3);
        faultOf("../..", 5);
        faultOf("../../", 6);
        faultOf("xx/xx", 5);
        faultOf("pppppp/", 7);
        faultOf(rows(6, 6), 41);
        faultOf(rows(6, 2), 17);
    }

    // ---- 5 ring

    @Sentence(promise = 5, says = "how many CELLS")
    private static void howManyCells() {
        for (int rows = 2; rows <= 6; rows++) {
            for (int wide = 2; wide <= 6; wide++) {
                WithEyesBound x = new WithEyesBound();
                Check.write(x, rows(rows, wide));
                check.due(rows + " by " + wide, x.ring(), rows * wide);
                check.due("count(0)", x.count(0), rows * wide);
                check.due("the last CELL", x.cell(rows * wide - 1), 0);
                check.due("none behind it", x.cell(rows * wide), UNKNOWN);
            }
        }
    }

    @Sentence(promise = 5, says = "another one is gone, with all PLAYERS, JACKETS; HE is LOST")
    private static void anotherIsGone() {
        WithEyesBound x = Check.withRing(rows(6, 6));
        for (int player = 0; player < 6; player++) {
            x.player(player, 35, 5, player % 5, 2);
        }
        x.jackets(0, 1, 10);
        x.set(35, 3);
        Check.turnTimes(x, 9);
        x.image();
        Check.readRing(x, ".x/xx");
        check.due("all is new", x.digest(), Told.weights(1, 1, 1, 1, 0, 0, 0, 0, 0, 0, 0, 0, 0, 0, 0, 0).digestOf(x));
        check.due("CELLS", x.count(0), 4);
        check.due("FREE ones", x.count(1), 1);
        check.due("the old ones", x.cell(35), UNKNOWN);
        check.due("PLAYERS", x.count(2), 0);
        check.refused("the first PLAYER", x, () -> x.about(0, 0), UNKNOWN);
        check.refused("the last PLAYER", x, () -> x.about(5, 0), UNKNOWN);
        check.refused("JACKETS of those gone", x, () -> x.jackets(0, 1, 5), UNKNOWN);
        check.due("UPDATES", x.count(3), 0);
        check.due("weights", x.count(4), 4);
        check.due("nobody is named", x.says(5, 0, 2), NONE);
        check.due("the next PLAYER is the first one", x.player(0, 0, 5, 0, 2), 0);
        check.due("RINGS read", x.count(6), 2);
    }

    @Sentence(promise = 5, says = "THE PAGE is empty then")
    private static void pageIsEmptyThen() {
        WithEyesBound x = Check.withRing(rows(6, 6));
        check.due("letters", x.count(5), 0);
        check.due("blank()", x.blank(), 0);
        check.refused("the same once more", x, x::ring, STATE);
        Check.write(x, "b");
        check.due("a letter is the first one", x.fault(), 1);
    }

    @Sentence(promise = 5, says = "STATE: it is none")
    private static void itIsNone() {
        noRing("", 0);
        noRing(".", 1);
        noRing("..", 2);
        noRing("../", 3);
        noRing("../.", 4);
        noRing("../../", 6);
        noRing("../../.", 7);
        noRing("../..a", 5);
        noRing("a./..", 0);
        noRing(rows(6, 6) + ".", 41);
        noRing(rows(6, 6).substring(0, 40), 40);
        noRing(".".repeat(45), 6);
    }

    @Sentence(promise = 5, says = "or has no FREE CELL")
    private static void noFreeCell() {
        noRing("xx/xx", 5);
        noRing("pp/pp", 5);
        noRing("px/xp", 5);
        noRing(rows(6, 6).replace('.', 'p'), 41);
        noRing(rows(6, 6).replace('.', 'x'), 41);
        isRing(".x/xx", 4);
        isRing("xx/xb", 4);
        isRing("bp/pp", 4);
        isRing(rows(6, 6).replace('.', 'p').substring(0, 40) + ".", 36);
        WithEyesBound x = new WithEyesBound();
        Check.write(x, "xx/xx");
        check.refused("as the first one", x, x::ring, STATE);
        check.due("RINGS read", x.count(6), 0);
    }

    // ---- 6 cell

    @Sentence(promise = 6, says = "0 FLOOR, 1 BOARD, 2 POST, 3 OUTSIDE")
    private static void cellsOfEachKind() {
        WithEyesBound x = Check.withRing("xpb./.bpx");
        int[] kinds = {3, 2, 1, 0, 0, 1, 2, 3};
        for (int cell = 0; cell < 8; cell++) {
            check.due("cell(" + cell + ")", x.cell(cell), kinds[cell]);
        }
    }

    @Sentence(promise = 6, says = "UNKNOWN (without a RING, too)")
    private static void cellUnknown() {
        WithEyesBound x = Check.withRing("../..");
        check.refusedBeyond("cell", x, 0, 3, UNKNOWN, x::cell);
        WithEyesBound y = Check.withRing(rows(6, 6));
        check.refusedBeyond("cell of the largest RING", y, 0, 35, UNKNOWN, y::cell);
        WithEyesBound z = new WithEyesBound();
        Check.write(z, "../..");
        check.refusedBeyond("cell without a RING", z, 0, -1, UNKNOWN, z::cell);
    }
}
