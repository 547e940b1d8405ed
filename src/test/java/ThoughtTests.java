import java.io.IOException;

/** What a call answers in thought, set beside what comes of doing it truly on twins of the object. */
public final class ThoughtTests {
    private static final int NONE = Edges.NONE, COASTS = 6, MARKS = 6, KINDS = 6, NUMBERS = 10, PEOPLE = 5;
    private static final int DRAWN_OBJECTS = 60;
    private static final String[] TAKES = {
        "grains", "grains-(day<6)*mark", "mark*coast+day", "number+grains*(mark<3)", "(day=5)*9+(coast=2)", "7", "2*mark"
    };
    private static final String[] KEEPS = {"50", "grains", "100-shoe", "mark*20", "number*10+day", "coast+99", "0"};
    private static final String[] SURE = {"grains", "mark+number", "shoe-grains", "9*day", "1", "coast", "grains*mark"};

    private final Edges e;
    private long z;

    private ThoughtTests(Edges e) {
        this.e = e;
    }

    private int draw(int n) {
        z = z * 6364136223846793005L + 1442695040888963407L;
        return (int) ((z >>> 33) % n);
    }

    /** Alike for the same number; some 260 calls, the people of all kinds but one. */
    private SandInTheShoe made(int number) {
        z = number * 7919L + 5;
        for (int i = 0; i < 8; i++) {
            draw(2);
        }
        SandInTheShoe x = new SandInTheShoe();
        int many = number % 3 == 0 ? 99 : 5;
        for (int coast = 0; coast < COASTS; coast++) {
            for (int mark = 0; mark < MARKS; mark++) {
                x.set(1, 10 * coast + mark, draw(2) * draw(many + 1));
            }
        }
        int first = draw(KINDS);
        for (int one = 0; one < PEOPLE; one++) {
            x.person((first + one) % KINDS, draw(NUMBERS));
            for (int mark = 0; mark < MARKS; mark++) {
                x.set(3, 10 * one + mark, draw(5) == 0 ? 9999 - draw(200) : draw(2) * draw(300));
            }
        }
        x.set(0, 0, draw(9));
        // All six texts would be too many calls for one object.
        for (int text = 1; text < 3; text++) {
            Edges.read(x, "takes " + TAKES[draw(7)] + ";keeps " + KEEPS[draw(7)] + ";sure " + SURE[draw(7)] + ";");
        }
        x.force(draw(3));
        return x;
    }

    /** A day on a coast that leaves the day as it was. */
    private static void staysTheDay(SandInTheShoe x, int one, int coast) {
        int day = x.count(1);
        x.stay(one, coast);
        x.set(0, 0, day);
    }

    private static void empty(SandInTheShoe x, int one) {
        Edges.shoe(x, one, 0, 0, 0, 0, 0, 0);
    }

    // ---- takes, keeps, sure

    private void takes(int number) {
        e.sentence("Terms 1", "TAKES (of a MARK m in a DAY on a COAST, takes telling v):");
        SandInTheShoe x = made(number);
        for (int one = 0; one < PEOPLE; one++) {
            int coast = draw(COASTS);
            int[] due = new int[MARKS];
            SandInTheShoe y = made(number);
            empty(y, one);
            y.stay(one, coast);
            for (int mark = 0; mark < MARKS; mark++) {
                due[mark] = y.told(10 * one + mark, 3);
                e.due("object " + number + ": asks(" + one + ", " + mark + ", " + coast + ")", x.asks(one, mark, coast), due[mark]);
            }
        }
    }

    private void keeps(int number) {
        e.sentence("Terms 1", "KEEPS (of so many GRAINS g in the SHOE, by shaking, keeps telling v hundredths):");
        for (int one = 0; one < PEOPLE; one++) {
            SandInTheShoe x = made(number);
            SandInTheShoe y = made(number);
            y.shake(one);
            for (int mark = 0; mark < MARKS; mark++) {
                e.due("object " + number + ": asks(" + one + ", " + mark + ", 6)", x.asks(one, mark, 6), y.told(10 * one + mark, 3));
            }
        }
    }

    /** By the examiner's own shoe, when it is made like the other one's. */
    private void sure(int number) {
        e.sentence("Terms 1", "SURE (of a MARK, by so many GRAINS, sure telling v):");
        SandInTheShoe x = made(number);
        for (int one = 0; one < PEOPLE; one++) {
            int examiner = (one + 1 + draw(PEOPLE - 1)) % PEOPLE;
            SandInTheShoe y = made(number);
            for (int mark = 0; mark < MARKS; mark++) {
                y.set(3, 10 * examiner + mark, y.told(10 * one + mark, 3));
            }
            int all = 0;
            for (int mark = 0; mark < MARKS; mark++) {
                all += y.told(10 * one + mark, 3) > 0 ? y.asks(examiner, mark, 7) : 0;
            }
            e.due("object " + number + ": like(" + one + ", " + examiner + ", 1)", x.like(one, examiner, 1), all);
        }
    }

    private void namesOfOne() {
        e.sentence("Terms 1", "Of one of PEOPLE, a MARK (and a COAST):");
        SandInTheShoe x = Edges.rule(new SandInTheShoe(), "number*6+mark*3+coast", "number*9+mark", "number*5+mark+coast");
        int[] numbers = {0, 3, 9, 1, 4};
        for (int one = 0; one < PEOPLE; one++) {
            x.person(0, numbers[one]);
            for (int mark = 0; mark < MARKS; mark++) {
                x.set(3, 10 * one + mark, 100);
            }
        }
        for (int one = 0; one < PEOPLE; one++) {
            int number = numbers[one];
            for (int mark = 0; mark < MARKS; mark++) {
                for (int coast = 0; coast < COASTS; coast++) {
                    e.due("takes of " + one, x.asks(one, mark, coast), number * 6 + mark * 3 + coast);
                }
                e.due("keeps of " + one, x.asks(one, mark, 6), number * 9 + mark);
                e.due("sure of " + one, x.asks(one, mark, 7), number * 5 + mark);
            }
        }
    }

    // ---- staying

    /** All that a day changes, and that nothing else does. */
    private void stay(int number) {
        e.sentence("Terms 2", "A STAY of one on a COAST, a DAY, truly:");
        for (int one = 0; one < PEOPLE; one++) {
            SandInTheShoe x = made(number);
            int coast = draw(COASTS);
            int day = x.count(1);
            int[][] due = new int[PEOPLE][MARKS];
            int all = 0;
            for (int other = 0; other < PEOPLE; other++) {
                for (int mark = 0; mark < MARKS; mark++) {
                    int had = x.told(10 * other + mark, 3);
                    due[other][mark] = other == one ? Math.min(9999, had + x.asks(one, mark, coast)) : had;
                    all += other == one ? due[other][mark] : 0;
                }
            }
            int sand = x.told(coast, 7);
            e.due("object " + number + ": stay(" + one + ", " + coast + ")", x.stay(one, coast), all);
            for (int other = 0; other < PEOPLE; other++) {
                e.due("OUT of " + other, x.told(other, 5), other == one ? 1 : 0);
                for (int mark = 0; mark < MARKS; mark++) {
                    e.due("MARK " + mark + " in the SHOE of " + other, x.told(10 * other + mark, 3), due[other][mark]);
                }
            }
            e.due("DAY", x.count(1), day + 1);
            e.due("the COAST has all of its sand", x.told(coast, 7), sand);
        }
    }

    private void stays(int number) {
        e.sentence("Terms 2", ": so many DAYS on each COAST, one COAST behind the other,");
        SandInTheShoe x = made(number);
        for (int one = 0; one < PEOPLE; one++) {
            SandInTheShoe y = made(number);
            empty(y, one);
            int days = 0;
            for (int coast = 0; coast < COASTS; coast++) {
                int here = draw(4);
                days = days * 10 + here;
                for (int i = 0; i < here; i++) {
                    staysTheDay(y, one, coast);
                }
            }
            for (int mark = 0; mark < MARKS; mark++) {
                e.due("object " + number + ": stays(" + one + ", " + days + ", " + mark + ")",
                    x.stays(one, days, mark), y.told(10 * one + mark, 3));
            }
            e.due("object " + number + ": pack(0, " + one + ", " + days + ")", x.pack(0, one, days), y.told(one, 6));
            fitsWhatWasPacked(number, x, one, days);
        }
    }

    /** What was packed fits, the days that were packed among all that do. */
    private void fitsWhatWasPacked(int number, SandInTheShoe x, int one, int days) {
        String of = "object " + number + ", days " + days + " of " + one + ": ";
        int first = x.fit(0, one, 1);
        e.due(of + "some FIT", x.fit(0, one, 0) > 0 ? 1 : 0, 1);
        int been = 0;
        int all = 0;
        int rest = days;
        int firstDays = 0;
        for (int coast = COASTS - 1; coast >= 0; coast--) {
            been |= rest % 10 > 0 ? 1 << coast : 0;
            all += rest % 10;
            rest = rest / 10;
            firstDays += first / (int) Math.pow(10, coast) % 10;
        }
        e.due(of + "the FIRST has no more DAYS", x.fit(0, one, 2) <= all ? 1 : 0, 1);
        e.due(of + "its DAYS", x.fit(0, one, 2), firstDays);
        e.due(of + "MUST is of them", x.fit(0, one, 3) & ~been, 0);
        e.due(of + "MAY has them", been & ~x.fit(0, one, 4), 0);
        int[] there = new int[MARKS];
        for (int mark = 0; mark < MARKS; mark++) {
            there[mark] = x.stays(one, days, mark);
            e.due(of + "as much by the FIRST", x.stays(one, first, mark), there[mark]);
        }
    }

    private void go(int number) {
        e.sentence("Terms 2", "that by which the one's SHOE would be most LIKE the other one's then (least apart; TAKES told as DAY is now);");
        for (int n = 0; n <= 3; n++) {
            int one = draw(PEOPLE);
            int other = (one + 1 + draw(PEOPLE - 1)) % PEOPLE;
            int way = 0;
            int apart = NONE;
            for (int drawn = 0; drawn < Math.pow(COASTS, n); drawn++) {
                SandInTheShoe y = near(number, one, other);
                int digits = goes(y, one, drawn, n);
                int then = y.like(one, other, 0);
                if (digits != NONE && (apart == NONE || then < apart)) {
                    way = digits;
                    apart = then;
                }
            }
            String call = "object " + number + ": go(" + one + ", " + other + ", " + n;
            e.due(call + ", 0)", near(number, one, other).go(one, other, n, 0), way);
            e.due(call + ", 1)", near(number, one, other).go(one, other, n, 1), apart);
        }
    }

    /** Truly, n days: the coasts as digits of base 6, the first the highest; NONE if a lesser one is behind a greater. */
    private static int goes(SandInTheShoe y, int one, int way, int n) {
        int digits = 0;
        int last = 0;
        for (int i = n - 1; i >= 0; i--) {
            int coast = way / (int) Math.pow(COASTS, i) % COASTS;
            if (coast < last) {
                return NONE;
            }
            staysTheDay(y, one, coast);
            digits = digits * 10 + coast + 1;
            last = coast;
        }
        return digits;
    }

    /** The other one's shoe has as much as a day or two more would bring to the one's. */
    private SandInTheShoe near(int number, int one, int other) {
        long drawn = z;
        SandInTheShoe x = made(number);
        z = drawn;
        for (int mark = 0; mark < MARKS; mark++) {
            int more = x.asks(one, mark, number % COASTS) + x.asks(one, mark, (number + 2) % COASTS) - number % 5;
            x.set(3, 10 * other + mark, Math.max(0, Math.min(9999, x.told(10 * one + mark, 3) + more)));
        }
        return x;
    }

    private void drawn(int number) {
        e.sentence("Terms 2", ": all GRAINS in one's SHOE then, together.");
        int one = draw(PEOPLE);
        int seed = draw(1 << 30) * (number % 2 == 0 ? -5 : 7);
        SandInTheShoe x = made(number);
        SandInTheShoe y = made(number);
        int next = seed;
        for (int n = 0; n <= 40; n++) {
            e.due("object " + number + ": drawn(" + seed + ", " + one + ", " + n + ")", x.drawn(seed, one, n), y.told(one, 6));
            next = next * 1103515245 + 12345;
            y.stay(one, (next >>> 9) % COASTS);
        }
        int m = 1 + number % 20;
        int[] brought = new int[m];
        int most = 0;
        for (int i = 0; i < m; i++) {
            brought[i] = x.drawn(seed + i, one, 5);
            most = Math.max(most, brought[i]);
        }
        for (int k = most - 2; k <= most + 1; k++) {
            int reached = 0;
            for (int i = 0; i < m; i++) {
                reached += brought[i] >= k ? 1 : 0;
            }
            if (k >= 0) {
                long above = x.chance(seed, m, one, k, 0);
                long below = x.chance(seed, m, one, k, 1);
                e.due("object " + number + ": chance() of " + k + " in " + m, above * m, reached * below);
            }
        }
    }

    // ---- what was told of taking

    /** A sheet is filmed of a twin that is otherwise by one thing, and read back: that thing is among what is told. */
    private void tells(int number) {
        e.sentence("Promise 19", "TOLD of one on a COAST: the first that is otherwise (what 0; NONE), KINDS (1), NUMBERS (2), DAYS: how many (3), the least (4; NONE), COASTS (5), TEXTS (6).");
        int one = draw(PEOPLE);
        int coast = draw(COASTS);
        SandInTheShoe x = made(number);
        x.film(0, one, coast);
        int[] many = {0, 0, NUMBERS, 100, 0, COASTS, 3};
        e.due("object " + number + ": the kind is told", x.tells(0, one, coast, 1) >> x.told(one, 4) & 1, 1);
        for (int what = 2; what < 7; what++) {
            int bits = 0;
            int days = 0;
            int least = NONE;
            SandInTheShoe y = made(number);
            y.film(0, one, coast);
            for (int by = 0; by < many[what]; by++) {
                vary(y, one, what, by);
                boolean so = y.tells(0, one, what == 5 ? by : coast, 0) == NONE;
                bits |= so && what != 3 ? 1 << by : 0;
                days += so ? 1 : 0;
                least = so && least == NONE ? by : least;
            }
            String call = "object " + number + ": tells(0, " + one + ", " + coast + ", " + what + ")";
            if (what == 3) {
                e.due(call, x.tells(0, one, coast, 3), days);
                e.due(call + ", the least", x.tells(0, one, coast, 4), least);
            } else if (what != 4) {
                e.due(call, x.tells(0, one, coast, what), bits);
            }
        }
    }

    private static void vary(SandInTheShoe y, int one, int what, int by) {
        if (what == 2) {
            y.set(2, one, by);
        } else if (what == 3) {
            y.set(0, 0, by);
        } else if (what == 6) {
            y.force(by);
        }
    }

    /** Of each kind one comes with the same number, and is asked whether it is so. */
    private void kinds(int number) {
        e.sentence("Terms 2", "KINDS (bits 0 .. 5)");
        int filmed = draw(KINDS);
        int coast = draw(COASTS);
        int theirs = draw(NUMBERS);
        SandInTheShoe x = new SandInTheShoe();
        for (int kind = 0; kind < PEOPLE; kind++) {
            x.person(kind, theirs);
        }
        x.image();
        for (int mark = 0; mark < MARKS; mark++) {
            x.set(1, 10 * coast + mark, draw(3) * draw(20));
        }
        int asked = filmed < PEOPLE ? filmed : 0;
        x.film(0, asked, coast);
        int bits = 0;
        for (int kind = 0; kind < PEOPLE; kind++) {
            bits |= x.tells(0, kind, coast, 0) == NONE ? 1 << kind : 0;
        }
        for (int kind = 0; kind < PEOPLE; kind++) {
            e.due("kinds " + number + ", asked of " + kind, x.tells(0, kind, coast, 1) & 31, bits);
        }
    }

    public static void main(String[] args) throws IOException {
        ThoughtTests t = new ThoughtTests(new Edges(args));
        for (int number = 0; number < DRAWN_OBJECTS; number++) {
            t.takes(number);
            t.keeps(number);
            t.sure(number);
            t.stay(number);
            t.stays(number);
            t.go(number);
            t.drawn(number);
            t.tells(number);
            t.kinds(number);
        }
        t.namesOfOne();
        t.e.ends("ThoughtTests");
    }
}
