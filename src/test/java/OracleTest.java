import java.util.Random;

/** All promises: random runs of calls, each answer against the Oracle's; wrong and far-off numbers among them. */
public final class OracleTest {
    private static final int RUNS = 2500;
    private static final int[] FAR = {-1, Integer.MIN_VALUE, Integer.MAX_VALUE, 1 << 30, -7, 37, 144, 201};
    private static final Check check = new Check();

    private final Random random;
    private final WithEyesBound x = new WithEyesBound();
    private final Oracle o = new Oracle();
    private final String run;
    private final boolean wild;
    private int cells;

    private OracleTest(int seed) {
        random = new Random(seed);
        run = "run " + seed + ": ";
        wild = seed % 4 == 0;
    }

    public static void main(String[] args) {
        for (int seed = 0; seed < RUNS; seed++) {
            new OracleTest(seed).runOn();
        }
        check.end();
    }

    private void runOn() {
        if (random.nextInt(10) > 0) {
            readRing();
        }
        int calls = 40 + random.nextInt(200);
        for (int i = 0; i < calls; i++) {
            call(random.nextInt(38));
            if (i % 10 == 0) {
                check.due(run + "digest()", x.digest(), o.digest());
            }
        }
        for (int what = -1; what <= 8; what++) {
            check.due(run + "count(" + what + ")", x.count(what), o.count(what));
        }
        check.due(run + "digest() at the end", x.digest(), o.digest());
    }

    /** Mostly from 0 to most, at times just beyond, at times far off. */
    private int upTo(int most) {
        int dice = random.nextInt(wild ? 12 : 80);
        if (dice == 0) {
            return FAR[random.nextInt(FAR.length)];
        }
        if (dice == 1) {
            return random.nextBoolean() ? -1 : most + 1;
        }
        return random.nextInt(most + 1);
    }

    private int someCell() {
        for (int i = 0; i < 20 && cells > 0 && random.nextInt(15) > 0; i++) {
            int cell = random.nextInt(cells);
            if (x.cell(cell) <= 1) {
                return cell;
            }
        }
        return upTo(Math.max(cells, 1));
    }

    private int somePlayer() {
        return upTo(Math.max(0, x.count(2) - 1));
    }

    private String someText() {
        String letters = random.nextInt(3) == 0 ? ".." : random.nextInt(8) == 0 ? "px" : ".....bbpx";
        int rows = 2 + random.nextInt(5);
        int wide = 2 + random.nextInt(5);
        StringBuilder text = new StringBuilder();
        for (int row = 0; row < rows; row++) {
            for (int column = 0; column < wide; column++) {
                text.append(letters.charAt(random.nextInt(letters.length())));
            }
            text.append(row < rows - 1 ? "/" : "");
        }
        if (random.nextInt(8) == 0) {
            text.setCharAt(random.nextInt(text.length()), "./bpxa~".charAt(random.nextInt(7)));
        }
        if (random.nextInt(12) == 0) {
            text.append("./b".charAt(random.nextInt(3)));
        }
        if (random.nextInt(12) == 0) {
            text.setLength(random.nextInt(text.length()));
        }
        return text.toString();
    }

    private void letters(long w) {
        check.due(run + "letters(" + w + ")", x.letters(w), o.letters(w));
        check.due(run + "fault()", x.fault(), o.fault());
    }

    private void readRing() {
        if (random.nextInt(6) > 0) {
            check.due(run + "blank()", x.blank(), o.blank());
        }
        String text = someText();
        for (int from = 0; from < text.length(); from += 8) {
            long w = 0;
            for (int i = Math.min(text.length(), from + 8) - 1; i >= from; i--) {
                w = w << 8 | text.charAt(i);
            }
            letters(w);
        }
        int got = x.ring();
        check.due(run + "ring() of " + text, got, o.ring());
        cells = got > 0 ? got : cells;
        for (int cell = -1; cell <= cells; cell++) {
            check.due(run + "cell(" + cell + ")", x.cell(cell), o.cell(cell));
        }
    }

    private void call(int which) {
        if (which < 16) {
            callOdds(which);
        } else if (which < 28) {
            callPlayers(which);
        } else {
            callOthers(which);
        }
    }

    private void callOdds(int which) {
        int a = upTo(5);
        int b = upTo(3);
        int part = upTo(1);
        int cell = someCell();
        int right = upTo(10);
        String with = run + "(" + a + ", " + b + ", " + part + ", " + cell + ", " + right + ")";
        switch (which) {
            case 0:
                check.due(with + " set", x.set(cell, b), o.set(cell, b));
                break;
            case 1:
                if (random.nextInt(3) == 0) {
                    check.due(with + " lost", x.lost(), o.lost());
                }
                break;
            case 2:
                check.due(with + " turned", x.turned(a), o.turned(a));
                break;
            case 3:
            case 4:
            case 5:
                check.due(with + " step", x.step(a, b), o.step(a, b));
                break;
            case 6:
            case 7:
                check.due(with + " heard", x.heard(cell, b, right), o.heard(cell, b, right));
                break;
            case 8:
                check.due(with + " odds", x.odds(cell, part), o.odds(cell, part));
                break;
            case 9:
                check.due(with + " ways", x.ways(b, part), o.ways(b, part));
                break;
            case 10:
                check.due(with + " likeliest", x.likeliest(), o.likeliest());
                break;
            case 11:
                check.due(with + " knows", x.knows(part), o.knows(part));
                break;
            case 12:
            case 13:
                check.due(with + " expected", x.expected(b, a, cell, right, part), o.expected(b, a, cell, right, part));
                break;
            case 14:
                check.due(with + " next", x.next(a, cell, right), o.next(a, cell, right));
                break;
            default:
                int post = somePost();
                check.due(with + " post " + post, x.post(post, a, part), o.post(post, a, part));
        }
    }

    private int somePost() {
        for (int i = 0; i < 30 && cells > 0; i++) {
            int cell = random.nextInt(cells);
            if (x.cell(cell) == 2) {
                return cell;
            }
        }
        return someCell();
    }

    private void callPlayers(int which) {
        int player = somePlayer();
        int cell = someCell();
        int way = upTo(3);
        int drift = upTo(9);
        int n = 1 + upTo(random.nextInt(5) == 0 ? 199 : 20);
        int m = 1 + upTo(8);
        String with = run + "(" + player + ", " + cell + ", " + way + ", " + drift + ", " + n + ", " + m + ")";
        switch (which) {
            case 16:
            case 17:
            case 18:
                addPlayer(cell);
                break;
            case 19:
                int kind = upTo(5);
                check.due(with + " as " + kind, x.as(player, kind), o.as(player, kind));
                break;
            case 20:
                int of = upTo(4);
                check.due(with + " about " + of, x.about(player, of), o.about(player, of));
                break;
            case 21:
                check.due(with + " move", x.move(player, cell), o.move(player, cell));
                break;
            case 22:
            case 23:
            case 24:
                int seed = random.nextBoolean() ? upTo(100) : random.nextInt();
                for (int what = -1; what <= 4; what++) {
                    check.due(with + " game " + seed + " " + what, x.game(cell, way, drift, seed, n, what),
                        o.game(cell, way, drift, seed, n, what));
                }
                break;
            case 25:
                int most = 1 + upTo(19);
                check.due(with + " lasts " + most, x.lasts(cell, way, drift, n, most), o.lasts(cell, way, drift, n, most));
                break;
            case 26:
                check.due(with + " stand", x.stand(player, cell, way, drift, n, m), o.stand(player, cell, way, drift, n, m));
                break;
            default:
                int other = somePlayer();
                int j = upTo(10);
                check.due(with + " jackets " + other + " " + j, x.jackets(player, other, j), o.jackets(player, other, j));
        }
    }

    private void addPlayer(int cell) {
        int kind = upTo(5);
        int size = upTo(9);
        int cloth = upTo(4);
        int giggle = upTo(4);
        check.due(run + "player(" + kind + ", " + cell + ", ..)", x.player(kind, cell, size, cloth, giggle),
            o.player(kind, cell, size, cloth, giggle));
    }

    private void callOthers(int which) {
        int player = somePlayer();
        int size = random.nextInt(3) == 0 ? upTo(9) : Math.max(0, x.about(player, 2)) + random.nextInt(2);
        int cloth = upTo(4);
        int giggle = upTo(4);
        int worth = upTo(99);
        int costs = upTo(99);
        String with = run + "(" + player + ", " + size + ", " + cloth + ", " + giggle + ", " + worth + ", " + costs + ")";
        switch (which) {
            case 28:
                check.due(with + " feels", x.feels(player, worth / 9, costs / 9), o.feels(player, worth / 9, costs / 9));
                break;
            case 29:
            case 30:
                for (int part = -1; part <= 2; part++) {
                    check.due(with + " named " + part, x.named(player, size, cloth, giggle, part),
                        o.named(player, size, cloth, giggle, part));
                }
                break;
            case 31:
                check.due(with + " says", x.says(size, cloth, giggle), o.says(size, cloth, giggle));
                break;
            case 32:
                check.due(with + " when", x.when(size, cloth, giggle, worth, costs), o.when(size, cloth, giggle, worth, costs));
                break;
            case 33:
                check.due(with + " image", x.image(), o.image());
                break;
            case 34:
                check.due(with + " restore", x.restore(), o.restore());
                break;
            case 35:
                letters(random.nextInt(3) == 0 ? random.nextLong() : random.nextLong() >>> 8 * (4 + random.nextInt(4)));
                break;
            case 36:
                check.due(with + " blank", x.blank(), o.blank());
                break;
            default:
                if (random.nextInt(4) == 0) {
                    readRing();
                }
        }
    }
}
