/** Promises 1 to 6, worked by hand. */
public final class RingTest {
    private static final int NONE = -1, UNKNOWN = -101, OUTSIDE = -102, STATE = -103, FULL = -104;
    private static final Check check = new Check();

    public static void main(String[] args) {
        aNewObject();
        letters();
        blank();
        fault();
        ring();
        cell();
        check.end();
    }

    private static void aNewObject() {
        WithEyesBound x = new WithEyesBound();
        for (int what = 0; what <= 7; what++) {
            check.due("1 count(" + what + ")", x.count(what), 0);
        }
        check.due("1 cell", x.cell(0), UNKNOWN);
        check.due("1 says", x.says(0, 0, 0), NONE);
        check.due("1 when", x.when(0, 0, 0, 99, 0), 0);
        check.due("1 as", x.as(0, 0), UNKNOWN);
        check.due("1 about", x.about(0, 0), UNKNOWN);
        check.due("1 image", x.image(), STATE);
        long h = 457;
        for (long number : new long[] {0, 10, 10, -1, -1, 0, 0, 0, 0, 0, 0, 0, 0, 0}) {
            h = 31 * h + number;
        }
        check.due("1 digest", x.digest(), h);
        WithEyesBound y = Check.withRing("../..");
        y.player(0, 0, 5, 2, 3);
        check.due("1 right in all tenths", y.named(0, 5, 2, 3, 0), 1);
        check.due("1 size is right", y.named(0, 4, 2, 3, 0), NONE);
        check.due("1 cloth is right", y.named(0, 5, 1, 3, 0), NONE);
        check.due("1 giggle is right", y.named(0, 5, 2, 2, 0), NONE);
    }

    private static void letters() {
        WithEyesBound x = new WithEyesBound();
        check.due("2 none", x.letters(0), 0);
        check.due("2 one", x.letters('.'), 1);
        check.due("2 codes 1 and 126", x.letters(126 << 8 | 1), 3);
        check.due("2 code 127", x.letters(127), OUTSIDE);
        check.due("2 code 128", x.letters(128), OUTSIDE);
        check.due("2 code 255 on high", x.letters(-1L << 56 | 0x2e2e2e2e2e2e2eL), OUTSIDE);
        check.due("2 code 127 on high", x.letters(127L << 56 | 0x2e2e2e2e2e2e2eL), OUTSIDE);
        check.due("2 behind a 0", x.letters('.' << 8), OUTSIDE);
        check.due("2 far behind a 0", x.letters((long) '.' << 56 | '.'), OUTSIDE);
        check.due("2 they changed nothing", x.count(5), 3);
        check.due("2 eight", x.letters(0x2e2e2e2e2e2e2e2eL), 11);
        check.due("2 in order", x.fault(), 1);
        for (int i = 0; i < 4; i++) {
            x.letters(0x2e2e2e2e2e2e2e2eL);
        }
        check.due("2 full by eight", x.letters(0x2e2e2e2e2e2e2e2eL), FULL);
        check.due("2 full by three", x.letters(0x2e2e2eL), FULL);
        check.due("2 OUTSIDE ahead of FULL", x.letters(0x7f2e2e2eL), OUTSIDE);
        check.due("2 full changed nothing", x.count(5), 43);
        check.due("2 up to 45", x.letters(0x2e2eL), 45);
        check.due("2 none more", x.letters(0), 45);
        check.due("2 above 45", x.letters('.'), FULL);
        WithEyesBound y = new WithEyesBound();
        check.due("2 the lowest byte first", y.letters('p' << 16 | 'b' << 8 | '.'), 3);
        y.letters('/' | 'x' << 8 | '.' << 16 | '.' << 24);
        y.ring();
        check.due("2 first letter", y.cell(0), 0);
        check.due("2 second letter", y.cell(1), 1);
        check.due("2 third letter", y.cell(2), 2);
        check.due("2 letter of the next call", y.cell(3), 3);
    }

    private static void blank() {
        WithEyesBound x = new WithEyesBound();
        check.due("3 empty", x.blank(), 0);
        Check.write(x, "a wrong page");
        check.due("3 had", x.blank(), 12);
        check.due("3 is empty", x.count(5), 0);
        check.due("3 again", x.blank(), 0);
        Check.write(x, "../..");
        check.due("3 the old letters are gone", x.ring(), 4);
    }

    private static void faultOf(String text, int due) {
        WithEyesBound x = new WithEyesBound();
        Check.write(x, text);
        check.due("4 fault of " + text, x.fault(), due);
        check.due("4 nothing is changed by " + text, x.count(5), text.length());
    }

    private static void fault() {
        faultOf("", 0);
        faultOf(".", 1);
        faultOf("/", 0);
        faultOf("./", 1);
        faultOf("./..", 1);
        faultOf("../", 3);
        faultOf("..//", 3);
        faultOf("../.", 4);
        faultOf("../..", 5);
        faultOf("../...", 5);
        faultOf("../../", 6);
        faultOf(".../../", 6);
        faultOf(".../..", 6);
        faultOf("......", 6);
        faultOf(".......", 6);
        faultOf("....../", 7);
        faultOf("....../.......", 13);
        faultOf("xx/xx/xx/xx/xx/xx", 17);
        faultOf("xx/xx/xx/xx/xx/xx/", 17);
        faultOf("xx/xx/xx/xx/xx/xxx", 17);
        faultOf("....../....../....../....../....../......", 41);
        faultOf("....../....../....../....../....../......./", 41);
        faultOf(".bpx/", 5);
        faultOf(".bpX", 3);
        faultOf("a", 0);
        faultOf(".. ", 2);
        faultOf("../o.", 3);
    }

    private static void refused(String text) {
        WithEyesBound x = Check.withRing("b./..");
        x.player(0, 1, 2, 3, 4);
        x.set(1, 1);
        Check.write(x, text);
        check.due("5 ring of " + text, x.ring(), STATE);
        check.due("5 page stays: " + text, x.count(5), text.length());
        check.due("5 ring stays: " + text, x.cell(0), 1);
        check.due("5 players stay: " + text, x.count(2), 1);
        check.due("5 odds stay: " + text, x.count(4), 1);
        check.due("5 not counted: " + text, x.count(6), 1);
    }

    private static void ring() {
        refused("");
        refused("..");
        refused("../");
        refused("../.");
        refused("../../");
        refused("./.");
        refused(".......");
        refused("......./.......");
        refused("../...");
        refused("pp/xx");
        refused("xx/xx/xx/xx/xx/xx");
        refused("../../../../../../..");
        refused("../..a");
        WithEyesBound x = new WithEyesBound();
        Check.write(x, "xx/xb");
        check.due("5 a board is enough", x.ring(), 4);
        check.due("5 page is empty", x.count(5), 0);
        check.due("5 he is lost", x.count(4), 4);
        x.player(0, 3, 1, 1, 1);
        x.player(0, 3, 1, 2, 1);
        x.jackets(0, 1, 10);
        x.turned(1);
        x.image();
        x.feels(1, 5, 5);
        Check.write(x, "....../......");
        check.due("5 another one", x.ring(), 12);
        check.due("5 players are gone", x.count(2), 0);
        check.due("5 the first one, too", x.about(0, 0), UNKNOWN);
        check.due("5 and the second", x.as(1, 0), UNKNOWN);
        check.due("5 he is lost anew", x.count(4), 48);
        check.due("5 no updates", x.count(3), 0);
        check.due("5 the image is gone", x.restore(), STATE);
        check.due("5 read twice", x.count(6), 2);
        x.player(0, 3, 1, 1, 1);
        x.player(0, 3, 1, 2, 1);
        x.feels(0, 10, 10);
        check.due("5 jackets are gone", x.says(1, 1, 1), 0);
        Check.write(x, "../../../../../..");
        check.due("5 six rows of two", x.ring(), 12);
        Check.write(x, "....../....../....../....../....../......");
        check.due("5 six rows of six", x.ring(), 36);
    }

    private static void cell() {
        WithEyesBound x = new WithEyesBound();
        check.due("6 without a ring", x.cell(0), UNKNOWN);
        Check.write(x, ".bp/xpb");
        check.due("6 of the page", x.cell(0), UNKNOWN);
        x.ring();
        int[] kinds = {0, 1, 2, 3, 2, 1};
        for (int cell = 0; cell < 6; cell++) {
            check.due("6 cell " + cell, x.cell(cell), kinds[cell]);
        }
        check.due("6 below", x.cell(-1), UNKNOWN);
        check.due("6 above", x.cell(6), UNKNOWN);
        check.due("6 far above", x.cell(Integer.MAX_VALUE), UNKNOWN);
        check.due("6 far below", x.cell(Integer.MIN_VALUE), UNKNOWN);
        check.due("6 free ones", x.count(1), 3);
    }
}
