/** Runs of calls that a fixed rule draws, on the class and on the Model: all answers must be alike. */
public final class ModelTests {
    private static final int CALLS = 512;
    private static final String[] LETTERS = {
        "takes ", "keeps ", "sure ", ";", "or ", "and ", "not ", "grains ", "mark ", "number ", "day ", "coast ",
        "shoe ", "(", ")", "+", "-", "*", "<", "=", "0", "7", "42", "9999", "12345", "\n", "x", "A", "\t", "grain "
    };
    private static final int[] EDGES = {
        Integer.MIN_VALUE, Integer.MAX_VALUE, -1, 160, 255, 256, 40, 41, 999, 1000, 9999, 10000, 99, 100, 333333, 333334, 99999
    };

    private long z;
    private final long[][] answers = new long[40][2];

    private int draw(int n) {
        z = z * 6364136223846793005L + 1442695040888963407L;
        return (int) ((z >>> 33) % n);
    }

    /** Mostly 0 .. n - 1, now and then far outside. */
    private int near(int n) {
        if (draw(25) == 0) {
            return draw(2) == 0 ? n : EDGES[draw(EDGES.length)];
        }
        return draw(n);
    }

    private int days() {
        int days = 0;
        for (int i = 0; i < 6; i++) {
            days = days * 10 + (draw(3) == 0 ? draw(4) : 0);
        }
        return draw(30) == 0 ? EDGES[draw(EDGES.length)] : days;
    }

    private String expression(int depth) {
        if (depth > 3 || draw(3) == 0) {
            return LETTERS[draw(3) == 0 ? 20 + draw(4) : 7 + draw(6)];
        }
        switch (draw(9)) {
            case 0:
                return "(" + expression(depth + 1) + ")";
            case 1:
                return "-" + expression(depth + 1);
            case 2:
                return "not " + expression(depth + 1);
            case 3:
                return expression(depth + 1) + "or " + expression(depth + 1);
            case 4:
                return expression(depth + 1) + "and " + expression(depth + 1);
            case 5:
                return expression(depth + 1) + (draw(2) == 0 ? "<" : "=") + expression(depth + 1);
            case 6:
                return expression(depth + 1) + "*" + expression(depth + 1);
            case 7:
                return expression(depth + 1) + "+" + expression(depth + 1);
            default:
                return expression(depth + 1) + "-" + expression(depth + 1);
        }
    }

    private String tape() {
        if (draw(4) == 0) {
            StringBuilder b = new StringBuilder("takes ");
            int n = draw(30);
            for (int i = 0; i < n; i++) {
                b.append(LETTERS[draw(LETTERS.length)]);
            }
            return b.toString();
        }
        String text = "takes " + expression(0) + ";keeps " + expression(0) + ";sure " + expression(0) + ";";
        int at = draw(text.length());
        switch (draw(6)) {
            case 0:
                return text.substring(0, at);
            case 1:
                return text.substring(0, at) + LETTERS[draw(LETTERS.length)] + text.substring(at);
            default:
                return text;
        }
    }

    private void due(int run, int call, String name, int kind, long got, long want) {
        answers[kind][want >= 0 ? 0 : 1]++;
        if (got != want) {
            throw new IllegalStateException("run " + run + ", call " + call + ": " + name + " answered " + got + ", due is " + want);
        }
    }

    private interface Call {
        long answer();
    }

    private static long of(Call c) {
        try {
            return c.answer();
        } catch (Model.Refused r) {
            return r.answer;
        }
    }

    private static long longOf(Call c) {
        try {
            return c.answer();
        } catch (Model.Refused r) {
            return SandInTheShoe.NO;
        }
    }

    private static final String[] NAMES = {
        "set", "person", "told", "asks", "feed", "text", "force", "stay", "shake", "like", "odd", "mean", "stays",
        "pack", "fit", "share", "go", "tells", "film", "drawn", "chance", "image", "back", "count", "sheet", "cell",
        "copy", "people", "taken"
    };

    private void step(int run, int call, SandInTheShoe x, Model y) {
        int k = draw(NAMES.length);
        int a = near(4);
        int p = near(4);
        int q = near(5);
        int c = near(6);
        int m = near(6);
        long got;
        long want;
        switch (k) {
            case 0: {
                int what = near(4);
                int of = what == 2 ? p : what == 3 ? 10 * (p % 100) + m : 10 * (c % 100) + m;
                int v = what == 0 ? near(draw(3) == 0 ? 1000 : 6) : what == 1 ? near(draw(3) == 0 ? 100 : 4)
                    : what == 2 ? near(10) : near(draw(3) == 0 ? 10000 : 20);
                got = x.set(what, of, v);
                want = of(() -> y.set(what, of, v));
                break;
            }
            case 1: {
                int n = near(10);
                got = x.person(c, n);
                want = of(() -> y.person(c, n));
                break;
            }
            case 2: {
                int what = near(8);
                int of = what == 1 || what == 3 ? 10 * (q % 100) + m : c;
                got = x.told(of, what);
                want = of(() -> y.told(of, what));
                break;
            }
            case 3: {
                int what = near(8);
                got = x.asks(p, m, what);
                want = of(() -> y.asks(p, m, what));
                break;
            }
            case 4: {
                int letter = near(256);
                got = x.feed(letter);
                want = of(() -> y.feed(letter));
                break;
            }
            case 5:
                got = readText(run, call, x, y);
                want = of(y::text);
                break;
            case 6:
                got = x.force(c);
                want = of(() -> y.force(c));
                break;
            case 7:
                got = x.stay(p, c);
                want = of(() -> y.stay(p, c));
                break;
            case 8:
                got = x.shake(p);
                want = of(() -> y.shake(p));
                break;
            case 9: {
                int what = near(2);
                got = x.like(p, q, what);
                want = of(() -> y.like(p, q, what));
                break;
            }
            case 10: {
                int what = near(3);
                got = x.odd(p, what);
                want = of(() -> y.odd(p, what));
                break;
            }
            case 11: {
                int part = near(2);
                got = x.mean(p, m, part);
                want = longOf(() -> y.mean(p, m, part));
                break;
            }
            case 12: {
                int d = days();
                got = x.stays(p, d, m);
                want = of(() -> y.stays(p, d, m));
                break;
            }
            case 13: {
                int d = days();
                got = x.pack(a, p, d);
                want = of(() -> y.pack(a, p, d));
                break;
            }
            case 14: {
                int what = near(5);
                got = x.fit(a, p, what);
                want = of(() -> y.fit(a, p, what));
                break;
            }
            case 15: {
                int part = near(2);
                got = x.share(a, p, c, part);
                want = longOf(() -> y.share(a, p, c, part));
                break;
            }
            default:
                later(run, call, x, y, k);
                return;
        }
        due(run, call, NAMES[k], k, got, want);
    }

    private int readText(int run, int call, SandInTheShoe x, Model y) {
        if (draw(8) > 0) {
            String tape = tape();
            for (int i = 0; i < tape.length(); i++) {
                char letter = tape.charAt(i);
                due(run, call, "feed", 4, x.feed(letter), of(() -> y.feed(letter)));
            }
        }
        return x.text();
    }

    private void later(int run, int call, SandInTheShoe x, Model y, int k) {
        int a = near(4);
        int b = near(4);
        int p = near(4);
        int q = near(5);
        int c = near(6);
        int i = near(8);
        int j = near(8);
        long got;
        long want;
        switch (k) {
            case 16: {
                int n = near(4);
                int what = near(2);
                got = x.go(p, q, n, what);
                want = of(() -> y.go(p, q, n, what));
                break;
            }
            case 17: {
                int what = near(7);
                got = x.tells(a, p, c, what);
                want = of(() -> y.tells(a, p, c, what));
                break;
            }
            case 18:
                got = x.film(a, p, c);
                want = of(() -> y.film(a, p, c));
                break;
            case 19: {
                int seed = draw(2) == 0 ? draw(1 << 30) : EDGES[draw(EDGES.length)];
                int n = near(41);
                got = x.drawn(seed, p, n);
                want = of(() -> y.drawn(seed, p, n));
                break;
            }
            case 20: {
                int seed = draw(2) == 0 ? draw(1 << 30) : EDGES[draw(EDGES.length)];
                int m = near(21);
                int most = near(draw(2) == 0 ? 200 : 20000);
                int part = near(2);
                got = x.chance(seed, m, p, most, part);
                want = longOf(() -> y.chance(seed, m, p, most, part));
                break;
            }
            case 21:
                got = x.image();
                want = y.image();
                break;
            case 22:
                got = x.back();
                want = y.back();
                break;
            case 23: {
                int what = near(6);
                got = x.count(what);
                want = of(() -> y.count(what));
                break;
            }
            case 24: {
                int sort = near(4) - 1;
                int n = draw(3) == 0 ? near(41) : near(9) - 1;
                got = x.sheet(a, sort, n);
                want = of(() -> y.sheet(a, sort, n));
                break;
            }
            case 25: {
                int v = draw(4) == 0 ? EDGES[draw(EDGES.length)] : draw(8);
                got = x.cell(a, i, v);
                want = of(() -> y.cell(a, i, v));
                break;
            }
            case 26: {
                int n = near(8);
                got = x.copy(a, i, b, j, n);
                want = of(() -> y.copy(a, i, b, j, n));
                break;
            }
            case 27: {
                int sort = near(3);
                int n = near(6);
                got = x.people(a, sort, i, n);
                want = of(() -> y.people(a, sort, i, n));
                break;
            }
            default:
                got = x.taken(p, c);
                want = of(() -> y.taken(p, c));
                break;
        }
        due(run, call, NAMES[k], k, got, want);
    }

    private void run(int run, int calls) {
        z = run * 7919L + 1;
        SandInTheShoe x = new SandInTheShoe();
        Model y = new Model();
        for (int call = 0; call < calls; call++) {
            step(run, call, x, y);
        }
    }

    public static void main(String[] args) {
        int runs = args.length > 0 ? Integer.parseInt(args[0]) : 400;
        ModelTests t = new ModelTests();
        for (int run = 0; run < runs; run++) {
            t.run(run, CALLS);
        }
        // No answer is promised behind 512 calls, but that none throws.
        t.run(runs, 20 * CALLS);
        for (int k = 0; k < NAMES.length; k++) {
            System.out.println(NAMES[k] + ": " + t.answers[k][0] + " answers, " + t.answers[k][1] + " below 0");
        }
        System.out.println("all answers are as the model's");
    }
}
