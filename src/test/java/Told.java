import java.math.BigInteger;

/** What digest() must be, by whole numbers without a limit, from weights and all that a test says was told. */
final class Told {
    private static final BigInteger TWO_TO_64 = BigInteger.ONE.shiftLeft(64);

    int[] feels = {0, 10, 10};
    int[] jackets = {-1, -1, 0};
    String page = "";
    long[] weights = {};

    static Told weights(long... weights) {
        Told told = new Told();
        told.weights = weights;
        return told;
    }

    Told feels(int u, int cloth, int giggle) {
        feels = new int[] {u, cloth, giggle};
        return this;
    }

    Told jackets(int a, int b, int j) {
        jackets = new int[] {a, b, j};
        return this;
    }

    Told page(String text) {
        page = text;
        return this;
    }

    static long mixed(long... numbers) {
        BigInteger h = BigInteger.valueOf(457);
        for (long number : numbers) {
            h = next(h, number);
        }
        return h.longValue();
    }

    private static BigInteger next(BigInteger h, long number) {
        return h.multiply(BigInteger.valueOf(31)).add(BigInteger.valueOf(number)).mod(TWO_TO_64);
    }

    /** CELLS, PLAYERS, the GAME and counts are what the calls tell of them. */
    long digestOf(WithEyesBound x) {
        BigInteger h = BigInteger.valueOf(457);
        int first = -1;
        for (int cell = x.count(0) - 1; cell >= 0; cell--) {
            first = x.cell(cell) <= 1 ? cell : first;
        }
        for (int cell = 0; cell < x.count(0); cell++) {
            h = next(h, x.cell(cell));
        }
        for (long weight : weights) {
            h = next(h, weight);
        }
        for (int player = 0; player < x.count(2); player++) {
            for (int what = 0; what <= 4; what++) {
                h = next(h, x.about(player, what));
            }
        }
        for (int number : feels) {
            h = next(h, number);
        }
        for (int number : jackets) {
            h = next(h, number);
        }
        if (x.count(0) > 0 && x.count(2) > 0) {
            h = next(h, x.game(first, 0, 2, 1, 20, 0));
            h = next(h, x.game(first, 0, 2, 1, 20, 1));
        }
        for (char letter : page.toCharArray()) {
            h = next(h, letter);
        }
        for (int what = 0; what <= 7; what++) {
            h = next(h, x.count(what));
        }
        return h.longValue();
    }
}
