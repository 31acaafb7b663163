/** Counts the answers that are not as due, and ends a test with 1 if there was one. */
final class Check {
    static final int NONE = -1, UNKNOWN = -101, OUTSIDE = -102, STATE = -103, FULL = -104;
    /** Numbers far beyond what any call takes. */
    static final int[] FAR = {Integer.MIN_VALUE, -1000000, 1000000, Integer.MAX_VALUE};

    /** A call that is done when it is asked for. */
    interface Call {
        long answer();
    }

    /** A call with one number of its own. */
    interface CallWith {
        long answer(int number);
    }

    private int wrong;
    private int looked;
    private String about = "";

    int looked() {
        return looked;
    }

    /** What is said ahead of each answer from now on. */
    void nowAbout(String words) {
        about = words;
    }

    void due(String what, long got, long want) {
        looked++;
        if (got != want) {
            wrong++;
            if (wrong <= 40) {
                System.out.println(about + what + " answered " + got + ", due is " + want);
            }
        }
    }

    void holds(String what, boolean true_) {
        due(what, true_ ? 1 : 0, 1);
    }

    /** A refused call answers as due and changes nothing. */
    void refused(String what, WithEyesBound x, Call call, long want) {
        long before = x.digest();
        due(what, call.answer(), want);
        due(what + ": digest() behind the refusal", x.digest(), before);
    }

    /** A number may be least to most; just beyond, and far beyond, it is refused. */
    void refusedBeyond(String what, WithEyesBound x, int least, int most, long want, CallWith call) {
        refused(what + " " + (least - 1), x, () -> call.answer(least - 1), want);
        refused(what + " " + (most + 1), x, () -> call.answer(most + 1), want);
        for (int far : FAR) {
            if (far < least || far > most) {
                refused(what + " " + far, x, () -> call.answer(far), want);
            }
        }
    }

    /** Where least and most themselves are taken: no refusal is answered. */
    void taken(String what, int least, int most, CallWith call) {
        for (int number : new int[] {least, most}) {
            long got = call.answer(number);
            boolean refusal = got >= FULL && got <= UNKNOWN || got < -1000000000000000000L;
            holds(what + " " + number + " is taken, answered " + got, !refusal);
        }
    }

    void end() {
        System.out.println(looked + " answers looked at, " + wrong + " not as due");
        if (wrong != 0) {
            System.exit(1);
        }
    }

    /** Puts a text behind THE PAGE, up to eight letters a call; what the last call answered. */
    static int write(WithEyesBound x, String text) {
        int answer = 0;
        for (int from = 0; from < text.length(); from += 8) {
            long w = 0;
            for (int i = Math.min(text.length(), from + 8) - 1; i >= from; i--) {
                w = w << 8 | text.charAt(i) & 255;
            }
            answer = x.letters(w);
        }
        return answer;
    }

    /** A new object with that RING. */
    static WithEyesBound withRing(String text) {
        WithEyesBound x = new WithEyesBound();
        readRing(x, text);
        return x;
    }

    /** THE PAGE must be empty. */
    static void readRing(WithEyesBound x, String text) {
        write(x, text);
        if (x.ring() < 0) {
            throw new IllegalStateException("no ring: " + text);
        }
    }

    static void turnTimes(WithEyesBound x, int times) {
        for (int i = 0; i < times; i++) {
            if (x.turned(1) < 0) {
                throw new IllegalStateException("turn " + i + " was refused");
            }
        }
    }
}
