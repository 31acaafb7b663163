/** Counts the answers that are not as due, and ends a test with 1 if there was one. */
final class Check {
    private int wrong;
    private int looked;

    void due(String what, long got, long want) {
        looked++;
        if (got != want) {
            wrong++;
            if (wrong <= 40) {
                System.out.println(what + " answered " + got + ", due is " + want);
            }
        }
    }

    void holds(String what, boolean true_) {
        due(what, true_ ? 1 : 0, 1);
    }

    void end() {
        System.out.println(looked + " answers looked at, " + wrong + " not as due");
        if (wrong != 0) {
            System.exit(1);
        }
    }

    /** Puts a text behind THE PAGE, up to eight letters a call; what the last call answered. */
    static int write(WithEyesBound x, String text) {
        int answer = 0;
        for (int from = 0; from < text.length(); from += 8) {
            long w = 0;
            for (int i = Math.min(text.length(), from + 8) - 1; i >= from; i--) {
                w = w << 8 | text.charAt(i) & 255;
            }
            answer = x.letters(w);
        }
        return answer;
    }

    /** A new object with that RING. */
    static WithEyesBound withRing(String text) {
        WithEyesBound x = new WithEyesBound();
        write(x, text);
        if (x.ring() < 0) {
            throw new IllegalStateException("no ring: " + text);
        }
        return x;
    }
}
