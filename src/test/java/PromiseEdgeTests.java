import java.io.IOException;

/** For each sentence of promises 1 to 30 that names an edge: the last that is let in, the first that is refused. */
public final class PromiseEdgeTests {
    private static final int NONE = Edges.NONE, BAD = Edges.BAD, STATE = Edges.STATE, FULL = Edges.FULL;
    private static final int NOTHING = Edges.NOTHING, OUTSIDE = Edges.OUTSIDE, UNLIKE = Edges.UNLIKE, BELOW = Edges.BELOW;
    private static final int LOW = Edges.LOW, HIGH = Edges.HIGH;
    private static final long NO = Edges.NO;

    private final Edges e;

    private PromiseEdgeTests(Edges e) {
        this.e = e;
    }

    // ---- objects at an edge

    private static SandInTheShoe fresh() {
        return new SandInTheShoe();
    }

    private static SandInTheShoe crowded() {
        SandInTheShoe x = Edges.grown();
        x.person(1, 1);
        x.person(2, 2);
        return x;
    }

    private static SandInTheShoe lastDay() {
        SandInTheShoe x = Edges.grown();
        x.set(0, 0, 999);
        return x;
    }

    private static SandInTheShoe fullTape() {
        SandInTheShoe x = Edges.with(0, 3);
        Edges.feed(x, "takes 3;keeps 60;sure 4;" + " ".repeat(136));
        return x;
    }

    private static SandInTheShoe fullTexts() {
        SandInTheShoe x = Edges.with(0, 3);
        for (int i = 1; i < 6; i++) {
            Edges.read(x, "takes" + i + ";keeps" + i + ";sure" + i + ";");
        }
        Edges.feed(x, "sure");
        return x;
    }

    // ---- coasts, people

    private void newObject() {
        e.sentence("Promise 1", "Nobody, bare COASTS.");
        SandInTheShoe x = fresh();
        e.due("count(0)", x.count(0), 0);
        for (int what = 2; what < 7; what++) {
            e.due("told(0, " + what + ")", x.told(0, what), BAD);
        }
        for (int coast = 0; coast < 6; coast++) {
            for (int mark = 0; mark < 6; mark++) {
                e.due("told(" + (10 * coast + mark) + ", 1)", x.told(10 * coast + mark, 1), 0);
            }
            e.due("told(" + coast + ", 7)", x.told(coast, 7), 0);
        }
    }

    private void set() {
        e.sentence("Promise 2", "DAY (what 0; of does not matter)");
        e.range("set(0, 0, v)", (x, v) -> x.set(0, 0, v), 0, 8, 999, 8, BAD);
        e.due("set(0, LOW, 999)", Edges.grown().set(0, LOW, 999), 8);
        e.due("set(0, HIGH, 0)", Edges.grown().set(0, HIGH, 0), 8);
        e.sentence("Promise 2", "GRAINS of a MARK on a COAST (1; of: 10 times the COAST, and the MARK)");
        e.range("set(1, of, 7)", (x, of) -> x.set(1, of, 7), 0, 1, 55, 99, BAD);
        e.range("set(1, 55, v)", (x, v) -> x.set(1, 55, v), 0, 99, 99, 99, BAD);
        e.sentence("Promise 2", "NUMBER (2) of one of PEOPLE");
        e.range("set(2, of, 7)", (x, of) -> x.set(2, of, 7), 0, 3, 2, 5, BAD);
        e.range("set(2, 1, v)", (x, v) -> x.set(2, 1, v), 0, 9, 9, 9, BAD);
        e.refused(PromiseEdgeTests::fresh, "set(2, 0, 0) of nobody", x -> x.set(2, 0, 0), BAD);
        e.sentence("Promise 2", "GRAINS of a MARK in a SHOE (3; of: 10 times the number, and the MARK; 0 .. 9999)");
        e.range("set(3, of, 7)", (x, of) -> x.set(3, of, 7), 0, 10, 25, 0, BAD);
        e.range("set(3, 15, v)", (x, v) -> x.set(3, 15, v), 0, 1, 9999, 1, BAD);
        e.refused(PromiseEdgeTests::fresh, "set(3, 0, 0) of nobody", x -> x.set(3, 0, 0), BAD);
        for (int of = 6; of < 10; of++) {
            int mark = of;
            e.refused("set(1, MARK " + of + ")", x -> x.set(1, mark, 0), BAD);
            e.refused("set(1, COAST 4, MARK " + of + ")", x -> x.set(1, 40 + mark, 0), BAD);
            e.refused("set(3, MARK " + of + ")", x -> x.set(3, mark, 0), BAD);
            e.refused("set(3, one 1, MARK " + of + ")", x -> x.set(3, 10 + mark, 0), BAD);
        }
        e.refused("set(1, 60, 0): COAST 6", x -> x.set(1, 60, 0), BAD);
        e.refused("set(3, 30, 0): nobody", x -> x.set(3, 30, 0), BAD);
        for (int of = -10; of < 0; of++) {
            int place = of;
            e.refused("set(1, " + of + ", 0)", x -> x.set(1, place, 0), BAD);
            e.refused("set(3, " + of + ", 0)", x -> x.set(3, place, 0), BAD);
        }
        e.sentence("Promise 2", "becomes v: what it was. BAD.");
        e.range("set(what, 0, 1)", (x, what) -> x.set(what, 0, 1), 0, 8, 3, 10, BAD);
        setKeeps(0, 0, 0, 999);
        setKeeps(1, 0, 0, 99);
        setKeeps(1, 55, 0, 99);
        setKeeps(2, 0, 0, 9);
        setKeeps(2, 2, 0, 9);
        setKeeps(3, 0, 0, 9999);
        setKeeps(3, 25, 0, 9999);
    }

    /** The least and the most stay as they were set; what is refused behind that leaves them. */
    private void setKeeps(int what, int of, int least, int most) {
        SandInTheShoe x = Edges.grown();
        x.set(what, of, least);
        x.set(what, of, least - 1);
        e.due("told(" + of + ", " + what + ")", x.told(of, what), least);
        e.due("set() of the most", x.set(what, of, most), least);
        x.set(what, of, most + 1);
        e.due("told(" + of + ", " + what + ")", x.told(of, what), most);
        e.due("set() of the least", x.set(what, of, least), most);
        e.changesNothing(Edges::grown, "set(" + what + ", " + of + ") there and back", y -> {
            int was = y.set(what, of, most - 1);
            return y.set(what, of, was);
        }, most - 1);
    }

    private void person() {
        e.sentence("Promise 3", "One of PEOPLE: the number. BAD; FULL.");
        e.range("person(kind, 4)", (x, kind) -> x.person(kind, 4), 0, 3, 5, 3, BAD);
        e.range("person(4, number)", (x, number) -> x.person(4, number), 0, 3, 9, 3, BAD);
        e.due("person(0, 0), the first", fresh().person(0, 0), 0);
        SandInTheShoe x = Edges.grown();
        e.due("person(5, 9), the fourth", x.person(5, 9), 3);
        e.due("person(0, 0), the fifth", x.person(0, 0), 4);
        e.due("KIND of the fourth", x.told(3, 4), 5);
        e.due("NUMBER of the fourth", x.told(3, 2), 9);
        e.due("KIND of the fifth", x.told(4, 4), 0);
        e.refused(PromiseEdgeTests::crowded, "person(0, 0), a sixth", y -> y.person(0, 0), FULL);
        e.refused(PromiseEdgeTests::crowded, "person(5, 9), a sixth", y -> y.person(5, 9), FULL);
        e.refused(PromiseEdgeTests::crowded, "person(6, 0), a sixth of none such", y -> y.person(6, 0), BAD);
        e.refused(PromiseEdgeTests::crowded, "person(0, -1), a sixth of none such", y -> y.person(0, -1), BAD);
    }

    private void told() {
        e.sentence("Promise 4", "What 0 .. 3 as of set(), 4 KIND, 5 OUT, 6 all GRAINS in the SHOE of one of PEOPLE, 7 all GRAINS of a COAST. BAD.");
        e.range("told(0, what)", (x, what) -> x.told(0, what), 0, 8, 7, 21, BAD);
        e.range("told(of, 1)", (x, of) -> x.told(of, 1), 0, 1, 55, 99, BAD);
        e.range("told(of, 2)", (x, of) -> x.told(of, 2), 0, 3, 2, 5, BAD);
        e.range("told(of, 3)", (x, of) -> x.told(of, 3), 0, 10, 25, 0, BAD);
        e.range("told(of, 4)", (x, of) -> x.told(of, 4), 0, 0, 2, 4, BAD);
        e.range("told(of, 5)", (x, of) -> x.told(of, 5), 0, 0, 2, 1, BAD);
        e.range("told(of, 6)", (x, of) -> x.told(of, 6), 0, 60, 2, 6, BAD);
        e.range("told(of, 7)", (x, of) -> x.told(of, 7), 0, 21, 5, 109, BAD);
        int[] anything = {LOW, -1, 0, 66, HIGH};
        for (int of : anything) {
            e.changesNothing(Edges::grown, "told(" + of + ", 0)", x -> x.told(of, 0), 8);
        }
        for (int mark = 6; mark < 10; mark++) {
            int of = mark;
            e.refused("told(" + of + ", 1)", x -> x.told(of, 1), BAD);
            e.refused("told(" + (of + 50) + ", 1)", x -> x.told(of + 50, 1), BAD);
            e.refused("told(" + of + ", 3)", x -> x.told(of, 3), BAD);
            e.refused("told(" + (of + 20) + ", 3)", x -> x.told(of + 20, 3), BAD);
        }
        e.refused("told(30, 3): nobody", x -> x.told(30, 3), BAD);
        e.due("told(24, 3), what a day brought", Edges.grown().told(24, 3), 2);
        for (int what = 0; what < 8; what++) {
            int asked = what;
            e.changesNothing(Edges::grown, "told(1, " + what + ")", x -> x.told(1, asked),
                new int[] {8, 2, 9, 0, 3, 0, 10000, 0}[what]);
        }
    }

    private void asks() {
        e.sentence("Promise 5", "Of one of PEOPLE and a MARK: TAKES on COAST what (what 0 .. 5), KEEPS (6), SURE, by GRAINS of one's own SHOE (7). BAD.");
        e.range("asks(one, 0, 0)", (x, one) -> x.asks(one, 0, 0), 0, 1, 2, 0, BAD);
        e.range("asks(0, mark, 0)", (x, mark) -> x.asks(0, mark, 0), 0, 1, 5, 6, BAD);
        e.range("asks(0, 0, what)", (x, what) -> x.asks(0, 0, what), 0, 1, 7, 10, BAD);
        e.range("asks(one, 1, 6)", (x, one) -> x.asks(one, 1, 6), 0, 0, 2, 0, BAD);
        e.range("asks(one, 5, 7)", (x, one) -> x.asks(one, 5, 7), 0, 30, 2, 10, BAD);
        e.range("asks(0, mark, 6)", (x, mark) -> x.asks(0, mark, 6), 0, 5, 5, 15, BAD);
        e.range("asks(0, mark, 7)", (x, mark) -> x.asks(0, mark, 7), 0, 10, 5, 30, BAD);
        e.changesNothing(Edges::grown, "asks(0, 0, 5): the last COAST", x -> x.asks(0, 0, 5), 10);
        e.changesNothing(Edges::grown, "asks(0, 5, 5): the last MARK there", x -> x.asks(0, 5, 5), 99);
        e.changesNothing(Edges::grown, "asks(0, 0, 6): KEEPS", x -> x.asks(0, 0, 6), 5);
        e.changesNothing(Edges::grown, "asks(0, 5, 7): SURE", x -> x.asks(0, 5, 7), 30);
        e.refused(PromiseEdgeTests::fresh, "asks(0, 0, 0) of nobody", x -> x.asks(0, 0, 0), BAD);
    }

    // ---- texts

    private void feed() {
        e.sentence("Promise 6", "A byte (0 .. 255) comes behind THE TAPE: how many it has. BAD; FULL.");
        e.range("feed(letter)", (x, letter) -> x.feed(letter), 0, 24, 255, 24, BAD);
        SandInTheShoe x = fresh();
        for (int i = 1; i <= 160; i++) {
            e.due("feed(), byte " + i, x.feed(i + 90), i);
        }
        e.refused(PromiseEdgeTests::fullTape, "feed(59), byte 161", y -> y.feed(59), FULL);
        e.refused(PromiseEdgeTests::fullTape, "feed(0), byte 161", y -> y.feed(0), FULL);
        e.refused(PromiseEdgeTests::fullTape, "feed(256), byte 161", y -> y.feed(256), BAD);
        e.refused(PromiseEdgeTests::fullTape, "feed(-1), byte 161", y -> y.feed(-1), BAD);
        e.due("feed() where no TEXT more has room", fullTexts().feed(0), 5);
        SandInTheShoe full = fullTape();
        full.feed('x');
        e.due("text() of 160 bytes, one refused", full.text(), 1);
        e.due("feed() on THE TAPE that is empty again", full.feed('x'), 1);
    }

    private void text() {
        e.sentence("Promise 7", "THE TAPE, which is empty then (by a FAULT, too), is a TEXT: its number; -100 less the place of its FAULT.");
        SandInTheShoe x = fresh();
        for (int i = 1; i < 6; i++) {
            e.due("text() of an empty TAPE", x.text(), -100);
            e.due("text() with a FAULT", Edges.read(x, "takes;"), -105);
            e.due("THE TAPE then", x.count(4), 0);
            e.due("TEXTS then", x.count(3), i);
            e.due("text() " + i, Edges.read(x, "takes" + i + ";keeps0;sure0;"), i);
            e.due("THE TAPE behind it", x.count(4), 0);
            e.due("THE RULE stays", x.count(5), 0);
        }
        e.due("text(), a FAULT behind 160 bytes", Edges.read("takes 1;keeps 1;sure 1" + " ".repeat(138)), -260);
        e.due("text(), a FAULT in byte 160", Edges.read("takes 1;keeps 1;sure 1;" + " ".repeat(136) + "x"), -259);
        e.due("text() of 160 bytes", Edges.read("takes 1;keeps 1;sure 1" + " ".repeat(137) + ";"), 1);
        e.sentence("Promise 7", "FULL (ahead of all): no TEXT more has room (THE TAPE stays).");
        e.refused(PromiseEdgeTests::fullTexts, "text() behind six TEXTS", SandInTheShoe::text, FULL);
        e.refused(PromiseEdgeTests::fullTextsEmptyTape, "text() behind six, THE TAPE empty", SandInTheShoe::text, FULL);
        SandInTheShoe full = fullTexts();
        full.text();
        e.due("THE TAPE stays", full.count(4), 4);
        e.due("and grows on", full.feed('A'), 5);
        e.due("text(), with a FAULT now", full.text(), FULL);
        e.due("THE TAPE stays", full.count(4), 5);
        for (int i = 1; i < 6; i++) {
            full.force(i);
            e.due("TEXT " + i + " is as it was read", full.asks(0, 0, 0), i);
        }
    }

    private static SandInTheShoe fullTextsEmptyTape() {
        SandInTheShoe x = Edges.with(0, 3);
        for (int i = 1; i < 6; i++) {
            Edges.read(x, "takes" + i + ";keeps" + i + ";sure" + i + ";");
        }
        return x;
    }

    private void force() {
        e.sentence("Promise 8", "A TEXT is THE RULE: which was. BAD.");
        e.range("force(text)", (x, text) -> x.force(text), 0, 0, 1, 0, BAD);
        e.range(PromiseEdgeTests::fresh, "force(text), of one", (x, text) -> x.force(text), 0, 0, 0, 0, BAD);
        e.range(PromiseEdgeTests::fullTexts, "force(text), of six", (x, text) -> x.force(text), 0, 0, 5, 0, BAD);
        SandInTheShoe x = fullTexts();
        x.force(5);
        e.due("force(6)", x.force(6), BAD);
        e.due("THE RULE stays", x.count(5), 5);
        e.due("which was", x.force(0), 5);
        e.due("THE RULE", x.count(5), 0);
        SandInTheShoe y = fresh();
        Edges.read(y, "takes;");
        e.due("force(1), where a FAULT made none", y.force(1), BAD);
    }

    // ---- staying, shaking

    private void stay() {
        e.sentence("Promise 9", "A STAY, truly: all GRAINS in the SHOE then. BAD; STATE: DAY is 999.");
        e.range("stay(one, 0)", (x, one) -> x.stay(one, 0), 0, 81, 2, 12, BAD);
        e.range("stay(0, coast)", (x, coast) -> x.stay(0, coast), 0, 81, 5, 169, BAD);
        e.refused(PromiseEdgeTests::fresh, "stay(0, 0) of nobody", x -> x.stay(0, 0), BAD);
        e.refused(PromiseEdgeTests::lastDay, "stay(0, 0) on DAY 999", x -> x.stay(0, 0), STATE);
        e.refused(PromiseEdgeTests::lastDay, "stay(2, 5) on DAY 999", x -> x.stay(2, 5), STATE);
        e.refused(PromiseEdgeTests::lastDay, "stay(3, 0) on DAY 999", x -> x.stay(3, 0), BAD);
        e.refused(PromiseEdgeTests::lastDay, "stay(0, 6) on DAY 999", x -> x.stay(0, 6), BAD);
        SandInTheShoe x = Edges.grown();
        x.set(0, 0, 998);
        e.due("stay(0, 0) on DAY 998", x.stay(0, 0), 81);
        e.due("DAY then", x.count(1), 999);
        e.due("stay(0, 0) on DAY 999", x.stay(0, 0), STATE);
        e.due("OUT then", x.told(0, 5), 1);
        x.set(0, 0, 0);
        e.due("stay(0, 0) on DAY 0", x.stay(0, 0), 102);
        e.due("OUT then", x.told(0, 5), 2);
    }

    private void shake() {
        e.sentence("Promise 10", "SHAKEN, truly: how many GRAINS less, together. BAD.");
        // The PROFESSOR keeps 10 less than all of his 0, 1, 1, 2, 2, 0, but not less than 0.
        e.range("shake(one)", (x, one) -> x.shake(one), 0, 30, 2, 6, BAD);
        e.refused(PromiseEdgeTests::fresh, "shake(0) of nobody", x -> x.shake(0), BAD);
        SandInTheShoe x = Edges.with(0, 0);
        e.changesNothing(() -> Edges.with(0, 0), "shake(0) of an empty SHOE", y -> y.shake(0), 0);
        Edges.shoe(x, 0, 9999, 9999, 9999, 9999, 9999, 9999);
        e.due("shake(0) of a full SHOE", x.shake(0), 6 * 5000);
        x.set(0, 0, 999);
        e.due("shake(0) on DAY 999", x.shake(0), 6 * 2500);
        e.due("DAY stays", x.count(1), 999);
        e.due("OUT stays", x.told(0, 5), 0);
    }

    private void like() {
        e.sentence("Promise 11", "LIKE (what 0), TELLS, the other one being the examiner (1). BAD: no such two, one and the same, what.");
        // Apart: 10, 1, 19, 2, 2, 30; a PROFESSOR is twice 10 + 5, 20 + 5, 30 + 5 sure.
        e.changesNothing(Edges::grown, "like(0, 2, 0)", x -> x.like(0, 2, 0), 64);
        e.changesNothing(Edges::grown, "like(0, 2, 1)", x -> x.like(0, 2, 1), 2 * 75);
        e.changesNothing(Edges::grown, "like(2, 0, 1)", x -> x.like(2, 0, 1), 6);
        e.changesNothing(Edges::grown, "like(2, 1, 1)", x -> x.like(2, 1, 1), 0);
        e.range("like(one, 1, 0)", (x, one) -> x.like(one == 1 ? 3 : one, 1, 0), 0, 9989 + 20 + 29, 2, 9999 + 6 + 1, BAD);
        e.range("like(1, other, 0)", (x, other) -> x.like(1, other, 0), 0, 10038, 2, 10006, BAD);
        e.range("like(1, other, 1)", (x, other) -> x.like(1, other, 1), 0, 100, 2, 2 * (99 + 5 + 1 + 5), BAD);
        e.range("like(0, 2, what)", (x, what) -> x.like(0, 2, what), 0, 64, 1, 150, BAD);
        for (int one = 0; one < 4; one++) {
            int same = one;
            e.refused("like(" + one + ", itself, 0)", x -> x.like(same, same, 0), BAD);
            e.refused("like(" + one + ", itself, 1)", x -> x.like(same, same, 1), BAD);
        }
        e.refused(PromiseEdgeTests::fresh, "like(0, 1, 0) of nobody", x -> x.like(0, 1, 0), BAD);
    }

    private void odd() {
        e.sentence("Promise 12", "ODD (what 0; NONE), how far apart then (1; NONE), POOR (2; one does not matter, but must be there). BAD.");
        e.range("odd(one, 0)", (x, one) -> x.odd(one, 0), 0, 1, 2, 1, BAD);
        e.range("odd(one, 1)", (x, one) -> x.odd(one, 1), 0, 10038, 2, 10006, BAD);
        e.range("odd(one, 2)", (x, one) -> x.odd(one, 2), 0, 1, 2, 1, BAD);
        e.range("odd(0, what)", (x, what) -> x.odd(0, what), 0, 1, 2, 1, BAD);
        e.changesNothing(() -> Edges.with(0, 0), "odd(0, 0), nobody else", x -> x.odd(0, 0), NONE);
        e.changesNothing(() -> Edges.with(0, 0), "odd(0, 1), nobody else", x -> x.odd(0, 1), NONE);
        e.changesNothing(() -> Edges.with(0, 0), "odd(0, 2), all bare", x -> x.odd(0, 2), 0);
        for (int what = 0; what < 3; what++) {
            int asked = what;
            e.refused(PromiseEdgeTests::fresh, "odd(0, " + what + ") of nobody", x -> x.odd(0, asked), BAD);
        }
    }

    private void mean() {
        e.sentence("Promise 13", "MEAN: part 0 above, 1 below the line, in lowest terms. NO: none such, mark, part, an empty SHOE.");
        e.range("mean(one, 1, 0)", (x, one) -> x.mean(one, 1, 0), 0, 0, 2, 1, NO);
        e.range("mean(0, mark, 0)", (x, mark) -> x.mean(0, mark, 0), 0, 1, 5, 1, NO);
        e.range("mean(0, mark, 1)", (x, mark) -> x.mean(0, mark, 1), 0, 6, 5, 2, NO);
        e.range("mean(0, 2, part)", (x, part) -> x.mean(0, 2, part), 0, 1, 1, 3, NO);
        e.changesNothing(Edges::grown, "mean(1, 0, 0)", x -> x.mean(1, 0, 0), 9999);
        e.changesNothing(Edges::grown, "mean(1, 0, 1)", x -> x.mean(1, 0, 1), 10000);
        e.changesNothing(Edges::grown, "mean(0, 1, 0), none of it", x -> x.mean(0, 1, 0), 0);
        e.changesNothing(Edges::grown, "mean(0, 1, 1), none of it", x -> x.mean(0, 1, 1), 1);
        for (int part = 0; part < 2; part++) {
            int asked = part;
            e.refused(() -> Edges.with(0, 0), "mean(0, 0, " + part + "), an empty SHOE", x -> x.mean(0, 0, asked), NO);
            e.refused(PromiseEdgeTests::fresh, "mean(0, 0, " + part + ") of nobody", x -> x.mean(0, 0, asked), NO);
        }
        SandInTheShoe x = Edges.with(0, 0);
        x.set(3, 5, 1);
        e.due("mean(0, 5, 0), one grain", x.mean(0, 5, 0), 1);
        e.due("mean(0, 5, 1), one grain", x.mean(0, 5, 1), 1);
        Edges.shoe(x, 0, 9999, 9999, 9999, 9999, 9999, 9999);
        e.due("mean(0, 3, 0), all full", x.mean(0, 3, 0), 1);
        e.due("mean(0, 3, 1), all full", x.mean(0, 3, 1), 6);
    }

    // ---- where one was

    private void stays() {
        e.sentence("Promise 14", "By STAYS (days 0 .. 333333, digits 0 .. 3) GRAINS of a MARK that would be in one's SHOE. BAD.");
        e.range("stays(one, 300000, 5)", (x, one) -> x.stays(one, 300000, 5), 0, 18, 2, 0, BAD);
        e.range("stays(0, days, 0)", (x, days) -> x.stays(0, days, 0), 0, 0, 333333, 33, BAD);
        e.range("stays(0, 100000, mark)", (x, mark) -> x.stays(0, 100000, mark), 0, 1, 5, 6, BAD);
        int[] bad = {4, 9, 34, 40, 334, 400, 3334, 4000, 33334, 40000, 333330 + 4, 333340, 333400, 334000, 340000, 400000, 1000000};
        for (int days : bad) {
            e.refused("stays(0, " + days + ", 0)", x -> x.stays(0, days, 0), BAD);
            e.refused("pack(0, 0, " + days + ")", x -> x.pack(0, 0, days), BAD);
        }
        e.refused(PromiseEdgeTests::fresh, "stays(0, 0, 0) of nobody", x -> x.stays(0, 0, 0), BAD);
        e.changesNothing(Edges::grown, "stays(0, 3, 5)", x -> x.stays(0, 3, 5), 297);
        e.changesNothing(PromiseEdgeTests::lastDay, "stays(0, 300003, 5) on DAY 999", x -> x.stays(0, 300003, 5), 18 + 297);
    }

    private void pack() {
        e.sentence("Promise 15", "A SHEET becomes, truly, what by STAYS would be in one's SHOE: six numbers (ints): all, together. BAD.");
        e.range("pack(sheet, 0, 100000)", (x, sheet) -> x.pack(sheet, 0, 100000), 0, 21, 3, 21, BAD);
        e.range("pack(0, one, 100000)", (x, one) -> x.pack(0, one, 100000), 0, 21, 2, 6, BAD);
        e.range("pack(0, 0, days)", (x, days) -> x.pack(0, 0, days), 0, 0, 333333, 63 + 327, BAD);
        e.refused(PromiseEdgeTests::fresh, "pack(0, 0, 0) of nobody", x -> x.pack(0, 0, 0), BAD);
        for (int sheet = 0; sheet < 4; sheet++) {
            SandInTheShoe x = Edges.grown();
            x.pack(sheet, 0, 3);
            e.due("its last item", x.cell(sheet, 5, 297), 1);
            e.due("behind its last", x.cell(sheet, 6, 0), OUTSIDE);
            e.due("its sort", x.people(sheet, 2, 0, 0), 0);
            e.due("what fits", x.fit(sheet, 0, 1), 3);
            e.due("from an empty SHOE, which stays", x.told(0, 6), 60);
        }
    }

    private void fit() {
        e.sentence("Promise 16", "FIT of one: how many (what 0), FIRST (1; NONE), its DAYS (2; NONE), MUST (3; bits; 0: none FIT), MAY (4; bits).");
        // A day on COAST 0, and any days on COASTS 1 .. 4, which are bare.
        e.range("fit(0, 0, what)", (x, what) -> x.fit(0, 0, what), 0, 256, 4, 31, BAD);
        e.changesNothing(Edges::grown, "fit(0, 0, 1)", x -> x.fit(0, 0, 1), 100000);
        e.changesNothing(Edges::grown, "fit(0, 0, 2)", x -> x.fit(0, 0, 2), 1);
        e.changesNothing(Edges::grown, "fit(0, 0, 3)", x -> x.fit(0, 0, 3), 1);
        int[] none = {0, NONE, NONE, 0, 0};
        for (int what = 0; what < 5; what++) {
            int asked = what;
            e.changesNothing(Edges::grown, "fit(0, 2, " + what + "), none FIT", x -> x.fit(0, 2, asked), none[what]);
        }
        e.sentence("Promise 16", "BAD: SHEET, one, what; -11; BAD: it doesn't tell six.");
        e.range("fit(0, one, 0)", (x, one) -> x.fit(0, one, 0), 0, 256, 2, 0, BAD);
        e.range("fit(sheet, 0, 0)", (x, sheet) -> x.fit(sheet, 0, 0), 0, 256, 3, NOTHING, BAD);
        e.refused("fit(3, 0, 4), missing", x -> x.fit(3, 0, 4), NOTHING);
        e.refused("fit(3, 3, 0), missing, and nobody", x -> x.fit(3, 3, 0), BAD);
        e.refused("fit(3, 0, 5), missing, and what", x -> x.fit(3, 0, 5), BAD);
        e.refused("fit(1, 0, 0), four", x -> x.fit(1, 0, 0), BAD);
        e.refused("fit(2, 0, 0), eight", x -> x.fit(2, 0, 0), BAD);
        for (int n = 0; n <= 40; n++) {
            SandInTheShoe x = Edges.grown();
            x.sheet(3, n % 3, n);
            e.due("fit() of " + n + " items", x.fit(3, 0, 1), n == 6 ? 0 : BAD);
        }
    }

    private void share() {
        e.sentence("Promise 17", "SHARE: part 0 above, 1 below the line, in lowest terms. NO: all that fit() refuses, coast, part, none FIT.");
        e.range("share(0, 0, coast, 0)", (x, coast) -> x.share(0, 0, coast, 0), 0, 1, 5, 0, NO);
        e.range("share(0, 0, coast, 1)", (x, coast) -> x.share(0, 0, coast, 1), 0, 1, 5, 1, NO);
        e.range("share(0, 0, 1, part)", (x, part) -> x.share(0, 0, 1, part), 0, 3, 1, 4, NO);
        e.range("share(sheet, 0, 1, 0)", (x, sheet) -> x.share(sheet, 0, 1, 0), 0, 3, 3, NO, NO);
        e.range("share(0, one, 1, 0)", (x, one) -> x.share(0, one, 1, 0), 0, 3, 2, NO, NO);
        e.changesNothing(Edges::grown, "share(0, 0, 4, 1)", x -> x.share(0, 0, 4, 1), 4);
        for (int part = 0; part < 2; part++) {
            int asked = part;
            e.refused("share(0, 2, 0, " + part + "), none FIT", x -> x.share(0, 2, 0, asked), NO);
            e.refused("share(1, 0, 0, " + part + "), four", x -> x.share(1, 0, 0, asked), NO);
            e.refused("share(2, 0, 0, " + part + "), eight", x -> x.share(2, 0, 0, asked), NO);
            e.refused("share(3, 0, 0, " + part + "), missing", x -> x.share(3, 0, 0, asked), NO);
        }
        SandInTheShoe x = Edges.with(0, 0);
        x.sheet(0, 2, 6);
        e.due("share(), all COASTS bare", x.share(0, 0, 5, 0), 3);
        e.due("share(), all COASTS bare, below", x.share(0, 0, 5, 1), 4);
    }

    private void go() {
        e.sentence("Promise 18", "GO (what 0; 0: n is 0), how far apart then (1). BAD: no such two, one and the same, n, what.");
        // From 10, 0, 20, 0, 0, 30 to 0, 1, 1, 2, 2, 0: one would stay where there is nothing to take up.
        e.range("go(0, 2, n, 0)", (x, n) -> x.go(0, 2, n, 0), 0, 0, 3, 222, BAD);
        e.range("go(0, 2, n, 1)", (x, n) -> x.go(0, 2, n, 1), 0, 64, 3, 64, BAD);
        e.range("go(0, 2, 1, what)", (x, what) -> x.go(0, 2, 1, what), 0, 2, 1, 64, BAD);
        // The PROFESSOR takes 5 of MARK 0 on the last COAST: two days of them, and one on a bare one, make 10.
        e.range("go(one, 1, 1, 0)", (x, one) -> x.go(one == 1 ? 3 : one, 1, 1, 0), 0, 2, 2, 6, BAD);
        e.changesNothing(Edges::grown, "go(2, 0, 3, 0)", x -> x.go(2, 0, 3, 0), 266);
        // The CAPTAIN takes 9 of MARK 3 also on a bare COAST: from 9999, 0, 0, 27, 0, 1 to 0, 1, 1, 2, 2, 0.
        e.range("go(1, other, 1, 0)", (x, other) -> x.go(1, other, 1, 0), 0, 2, 2, 2, BAD);
        e.changesNothing(Edges::grown, "go(1, 2, 3, 1)", x -> x.go(1, 2, 3, 1), 9999 + 1 + 1 + 25 + 2 + 1);
        for (int one = 0; one < 4; one++) {
            int same = one;
            e.refused("go(" + one + ", itself, 1, 0)", x -> x.go(same, same, 1, 0), BAD);
            e.refused("go(" + one + ", itself, 0, 1)", x -> x.go(same, same, 0, 1), BAD);
        }
        e.refused(PromiseEdgeTests::fresh, "go(0, 1, 0, 0) of nobody", x -> x.go(0, 1, 0, 0), BAD);
        e.changesNothing(PromiseEdgeTests::lastDay, "go(0, 2, 3, 0) on DAY 999", x -> x.go(0, 2, 3, 0), 222);
    }

    // ---- what was told of taking

    private void tells() {
        e.sentence("Promise 19", "TOLD of one on a COAST: the first that is otherwise (what 0; NONE), KINDS (1), NUMBERS (2), DAYS: how many (3), the least (4; NONE), COASTS (5), TEXTS (6).");
        // Of a PERSON all six of the first SHEET are so; of the second the last is otherwise.
        int[] so = {NONE, 1, 1023, 100, 0, 1, 1};
        int[] otherwise = {3, 0, 0, 0, NONE, 0, 0};
        for (int what = 0; what < 7; what++) {
            int asked = what;
            e.changesNothing(Edges::grown, "tells(0, 0, 0, " + what + ")", x -> x.tells(0, 0, 0, asked), so[what]);
            e.changesNothing(Edges::grown, "tells(1, 0, 0, " + what + ")", x -> x.tells(1, 0, 0, asked), otherwise[what]);
            e.refused("tells(3, 0, 0, " + what + "), missing", x -> x.tells(3, 0, 0, asked), NOTHING);
            e.refused("tells(2, 0, 0, " + what + "), eight", x -> x.tells(2, 0, 0, asked), BAD);
        }
        e.sentence("Promise 19", "BAD: SHEET, none such, coast, what; -11; BAD: it tells more than 6.");
        e.range("tells(sheet, 0, 0, 0)", (x, sheet) -> x.tells(sheet, 0, 0, 0), 0, NONE, 3, NOTHING, BAD);
        e.range("tells(0, one, 0, 0)", (x, one) -> x.tells(0, one, 0, 0), 0, NONE, 2, 0, BAD);
        e.range("tells(0, 0, coast, 0)", (x, coast) -> x.tells(0, 0, coast, 0), 0, NONE, 5, 0, BAD);
        e.range("tells(0, 0, 0, what)", (x, what) -> x.tells(0, 0, 0, what), 0, NONE, 6, 1, BAD);
        e.refused("tells(3, 3, 0, 0), missing, and nobody", x -> x.tells(3, 3, 0, 0), BAD);
        e.refused("tells(3, 0, 6, 0), missing, and no COAST", x -> x.tells(3, 0, 6, 0), BAD);
        e.refused("tells(3, 0, 0, 7), missing, and what", x -> x.tells(3, 0, 0, 7), BAD);
        for (int n = 0; n <= 40; n++) {
            SandInTheShoe x = Edges.grown();
            x.sheet(3, n % 3, n);
            e.due("tells() of " + n + " items", x.tells(3, 0, 1, 0), n <= 6 ? NONE : BAD);
        }
    }

    private void film() {
        e.sentence("Promise 20", "A SHEET truly becomes what one would TAKE of MARKS 0 .. 5 on a COAST (bytes): all, together. BAD.");
        e.range("film(sheet, 0, 0)", (x, sheet) -> x.film(sheet, 0, 0), 0, 21, 3, 21, BAD);
        e.range("film(0, one, 0)", (x, one) -> x.film(0, one, 0), 0, 21, 2, 6, BAD);
        e.range("film(0, 0, coast)", (x, coast) -> x.film(0, 0, coast), 0, 21, 5, 109, BAD);
        e.refused(PromiseEdgeTests::fresh, "film(0, 0, 0) of nobody", x -> x.film(0, 0, 0), BAD);
        for (int sheet = 0; sheet < 4; sheet++) {
            SandInTheShoe x = Edges.grown();
            x.film(sheet, 0, 5);
            e.due("its last item", x.cell(sheet, 5, 99), 1);
            e.due("behind its last", x.cell(sheet, 6, 0), OUTSIDE);
            e.due("its sort", x.people(sheet, 0, 0, 0), 0);
            e.due("what is so", x.tells(sheet, 0, 5, 0), NONE);
            e.due("DAY stays", x.count(1), 8);
        }
        e.due("film() on DAY 999", lastDay().film(0, 0, 5), 109);
    }

    private void drawn() {
        e.sentence("Promise 21", "DRAWN. BAD: none such, n.");
        e.range("drawn(0, one, 0)", (x, one) -> x.drawn(0, one, 0), 0, 60, 2, 6, BAD);
        // By SEED 0 the first day is on COAST 0.
        e.range("drawn(0, one, 1)", (x, one) -> x.drawn(0, one, 1), 0, 81, 2, 12, BAD);
        e.range(PromiseEdgeTests::dayByDay, "drawn(0, 0, n)", (x, n) -> x.drawn(0, 0, n), 0, 0, 40, 6 * 40, BAD);
        e.due("drawn(LOW, 0, 40)", dayByDay().drawn(LOW, 0, 40), 240);
        e.due("drawn(HIGH, 0, 40)", dayByDay().drawn(HIGH, 0, 40), 240);
        e.changesNothing(Edges::grown, "drawn(0, 0, 1)", x -> x.drawn(0, 0, 1), 81);
        e.changesNothing(PromiseEdgeTests::lastDay, "drawn(0, 0, 1) on DAY 999", x -> x.drawn(0, 0, 1), 81);
        e.refused(PromiseEdgeTests::fresh, "drawn(0, 0, 0) of nobody", x -> x.drawn(0, 0, 0), BAD);
    }

    /** One grain of each MARK on each COAST: by a day six grains more. */
    private static SandInTheShoe dayByDay() {
        SandInTheShoe x = Edges.with(0, 0);
        for (int coast = 0; coast < 6; coast++) {
            Edges.coast(x, coast, 1, 1, 1, 1, 1, 1);
        }
        return x;
    }

    private void chance() {
        e.sentence("Promise 22", "IN m seeds: part 0 above, 1 below the line, in lowest terms. NO: m, none such, k, part.");
        e.range(PromiseEdgeTests::dayByDay, "chance(0, m, 0, 30, 0)", (x, m) -> x.chance(0, m, 0, 30, 0), 1, 1, 20, 1, NO);
        e.range(PromiseEdgeTests::dayByDay, "chance(0, m, 0, 31, 1)", (x, m) -> x.chance(0, m, 0, 31, 1), 1, 1, 20, 1, NO);
        e.range("chance(0, 1, one, 0, 0)", (x, one) -> x.chance(0, 1, one, 0, 0), 0, 1, 2, 1, NO);
        e.range("chance(0, 1, 0, k, 0)", (x, k) -> x.chance(0, 1, 0, k, 0), 0, 1, 99999, 0, NO);
        e.range("chance(0, 1, 0, 0, part)", (x, part) -> x.chance(0, 1, 0, 0, part), 0, 1, 1, 1, NO);
        e.changesNothing(Edges::grown, "chance(0, 20, 0, 0, 0)", x -> x.chance(0, 20, 0, 0, 0), 1);
        e.refused(PromiseEdgeTests::fresh, "chance(0, 1, 0, 0, 0) of nobody", x -> x.chance(0, 1, 0, 0, 0), NO);
        SandInTheShoe x = dayByDay();
        for (int k = 0; k < 60; k++) {
            e.due("chance(9, 20, 0, " + k + ", 0)", x.chance(9, 20, 0, k, 0), k <= 30 ? 1 : 0);
        }
        Edges.shoe(x, 0, 9999, 9999, 9999, 9999, 9999, 9999);
        e.due("chance() of a full SHOE", x.chance(9, 20, 0, 59994, 0), 1);
        e.due("chance() of more", x.chance(9, 20, 0, 59995, 0), 0);
    }

    private void imageAndBack() {
        e.sentence("Promise 23", "AN IMAGE is kept: how many of PEOPLE.");
        e.due("image() of nobody", fresh().image(), 0);
        e.due("image() of three", Edges.grown().image(), 3);
        e.due("image() of five", crowded().image(), 5);
        SandInTheShoe x = fresh();
        x.image();
        x.person(0, 1);
        e.due("image() anew", x.image(), 1);
        x.person(0, 2);
        e.due("back() is to the latest", x.back(), 1);
        e.sentence("Promise 24", "All that it keeps is as in THE IMAGE: how many of PEOPLE. STATE: there is none.");
        e.refused(PromiseEdgeTests::fresh, "back() without an image", SandInTheShoe::back, STATE);
        e.refused(() -> Edges.with(1, 1), "back() without an image", SandInTheShoe::back, STATE);
        e.due("back() to three", crowded().back(), 3);
        SandInTheShoe y = crowded();
        y.back();
        e.due("back() again", y.back(), 3);
        e.due("one who is gone", y.told(3, 4), BAD);
        e.due("room again", y.person(5, 5), 3);
        e.due("room again", y.person(5, 6), 4);
        e.due("and no more", y.person(5, 7), FULL);
        SandInTheShoe z = fresh();
        z.image();
        z.person(0, 1);
        e.due("back() to nobody", z.back(), 0);
        e.due("one who is gone", z.told(0, 6), BAD);
        e.due("one anew", z.person(2, 2), 0);
    }

    private void count() {
        e.sentence("Promise 25", "How many: 0 PEOPLE, 1 DAY, 2 GRAINS of all SHOES, 3 TEXTS, 4 bytes of THE TAPE, 5 THE RULE. BAD.");
        e.range("count(what)", SandInTheShoe::count, 0, 3, 5, 0, BAD);
        long[] due = {3, 8, 60 + 10000 + 6, 2, 23, 0};
        for (int what = 0; what < 6; what++) {
            int asked = what;
            e.changesNothing(Edges::grown, "count(" + what + ")", x -> x.count(asked), due[what]);
        }
        e.due("PEOPLE, all", crowded().count(0), 5);
        e.due("DAY, the last", lastDay().count(1), 999);
        e.due("TEXTS, all", fullTexts().count(3), 6);
        e.due("bytes, all", fullTape().count(4), 160);
        SandInTheShoe x = crowded();
        for (int one = 0; one < 5; one++) {
            Edges.shoe(x, one, 9999, 9999, 9999, 9999, 9999, 9999);
        }
        e.due("GRAINS, all SHOES full", x.count(2), 30 * 9999);
        x.back();
        e.due("GRAINS of who is gone don't count", x.count(2), 0);
    }

    // ---- the host

    private void sheet() {
        e.sentence("Promise 26", "A SHEET becomes a row of n of a sort, all 0, or missing (sort -1: n does not matter): 1.");
        int[] anything = {LOW, -1, 0, 40, 41, HIGH};
        for (int n : anything) {
            SandInTheShoe x = Edges.grown();
            e.due("sheet(0, -1, " + n + ")", x.sheet(0, -1, n), 1);
            e.due("it is missing", x.cell(0, 0, 0), NOTHING);
            e.due("sheet(3, -1, " + n + "), missing", x.sheet(3, -1, n), 1);
            e.due("it is missing", x.cell(3, 0, 0), NOTHING);
            e.due("the others stay", x.cell(1, 3, 5), 1);
        }
        for (int sort = 0; sort < 3; sort++) {
            SandInTheShoe x = Edges.grown();
            e.due("sheet(0, " + sort + ", 6)", x.sheet(0, sort, 6), 1);
            e.due("its sort", x.people(0, sort, 0, 0), 0);
            e.due("all 0", x.fit(0, 0, 1), 0);
            e.due("sheet(0, " + sort + ", 0)", x.sheet(0, sort, 0), 1);
            e.due("nothing in it", x.cell(0, 0, 0), OUTSIDE);
            e.due("sheet(0, " + sort + ", 40)", x.sheet(0, sort, 40), 1);
            e.due("its last item", x.cell(0, 39, 1), 1);
            e.due("behind its last", x.cell(0, 40, 1), OUTSIDE);
        }
        e.sentence("Promise 26", "BAD: no such SHEET, sort; n above 40; -14.");
        e.range("sheet(sheet, 0, 1)", (x, sheet) -> x.sheet(sheet, 0, 1), 0, 1, 3, 1, BAD);
        e.range("sheet(sheet, -1, 1)", (x, sheet) -> x.sheet(sheet, -1, 1), 0, 1, 3, 1, BAD);
        e.range("sheet(0, sort, 1)", (x, sort) -> x.sheet(0, sort, 1), -1, 1, 2, 1, BAD);
        for (int sort = 0; sort < 3; sort++) {
            int of = sort;
            e.refused("sheet(0, " + of + ", 41)", x -> x.sheet(0, of, 41), BAD);
            e.refused("sheet(0, " + of + ", HIGH)", x -> x.sheet(0, of, HIGH), BAD);
            e.refused("sheet(0, " + of + ", -1)", x -> x.sheet(0, of, -1), BELOW);
            e.refused("sheet(3, " + of + ", LOW)", x -> x.sheet(3, of, LOW), BELOW);
        }
        e.refused("sheet(4, 0, -1)", x -> x.sheet(4, 0, -1), BAD);
        e.refused("sheet(0, 3, -1)", x -> x.sheet(0, 3, -1), BAD);
        e.refused("sheet(0, -2, -1)", x -> x.sheet(0, -2, -1), BAD);
    }

    private void cell() {
        e.sentence("Promise 27", "Item i of a SHEET becomes v (of bytes, shorts its lowest 8, 16 bits): 1.");
        e.range("cell(0, i, 7)", (x, i) -> x.cell(0, i, 7), 0, 1, 5, 1, OUTSIDE);
        e.range("cell(2, i, 7)", (x, i) -> x.cell(2, i, 7), 0, 1, 7, 1, OUTSIDE);
        lowestBits(0, 256);
        lowestBits(1, 65536);
        SandInTheShoe x = Edges.grown();
        x.cell(0, 0, 65536 + 1);
        e.due("an int keeps all its bits", x.fit(0, 0, 0), 0);
        x.cell(0, 0, 1);
        e.due("an int", x.fit(0, 0, 0), 256);
        e.sentence("Promise 27", "BAD: no such SHEET; -11; -12.");
        e.range("cell(sheet, 0, 7)", (y, sheet) -> y.cell(sheet, 0, 7), 0, 1, 3, NOTHING, BAD);
        e.range("cell(sheet, -1, 7)", (y, sheet) -> y.cell(sheet, -1, 7), 0, OUTSIDE, 3, NOTHING, BAD);
        int[] places = {LOW, -1, 0, 40, HIGH};
        for (int i : places) {
            e.refused("cell(3, " + i + ", 1), missing", y -> y.cell(3, i, 1), NOTHING);
        }
        SandInTheShoe empty = Edges.grown();
        empty.sheet(3, 1, 0);
        e.due("cell(3, 0, 1) of none", empty.cell(3, 0, 1), OUTSIDE);
        e.due("cell(3, -1, 1) of none", empty.cell(3, -1, 1), OUTSIDE);
    }

    /** 3 stands in an item by each number of which the lowest bits are 3, and by no other. */
    private void lowestBits(int sort, int above) {
        SandInTheShoe x = Edges.grown();
        x.sheet(3, sort, 3);
        x.cell(3, 0, 1);
        x.cell(3, 1, 2);
        int[] like = {3, above + 3, 3 - above, LOW + 3, 7 * above + 3};
        for (int v : like) {
            x.cell(3, 2, v);
            e.due("sort " + sort + ": " + v + " is 3", x.tells(3, 0, 0, 0), NONE);
        }
        int[] unlike = {above / 2 + 3, above - 1, -1, above / 2, -above / 2, above + 4, LOW, HIGH};
        for (int v : unlike) {
            x.cell(3, 2, v);
            e.due("sort " + sort + ": " + v + " isn't 3", x.tells(3, 0, 0, 0), 2);
        }
    }

    private void copy() {
        e.sentence("Promise 28", "n numbers of a SHEET, from item i on, come to another one's item j on (as they were): n.");
        // From four bytes, 1, 2, 3, 5, to five.
        e.range(PromiseEdgeTests::twoRows, "copy(1, i, 3, 0, 3)", (x, i) -> x.copy(1, i, 3, 0, 3), 0, 3, 1, 3, OUTSIDE);
        e.range(PromiseEdgeTests::twoRows, "copy(1, 0, 3, j, 3)", (x, j) -> x.copy(1, 0, 3, j, 3), 0, 3, 2, 3, OUTSIDE);
        e.range(PromiseEdgeTests::twoRows, "copy(1, 0, 3, 0, n)", (x, n) -> x.copy(1, 0, 3, 0, n), 0, 0, 4, 4, OUTSIDE);
        e.range(PromiseEdgeTests::twoRows, "copy(3, 0, 1, 0, n)", (x, n) -> x.copy(3, 0, 1, 0, n), 0, 0, 4, 4, OUTSIDE);
        e.range(PromiseEdgeTests::twoRows, "copy(1, i, 3, 0, 0)", (x, i) -> x.copy(1, i, 3, 0, 0), 0, 0, 4, 0, OUTSIDE);
        e.range(PromiseEdgeTests::twoRows, "copy(1, 0, 3, j, 0)", (x, j) -> x.copy(1, 0, 3, j, 0), 0, 0, 5, 0, OUTSIDE);
        SandInTheShoe x = twoRows();
        x.copy(1, 1, 3, 0, 2);
        x.copy(1, 3, 3, 2, 1);
        x.film(2, 0, 0);
        e.due("2, 3, 5: the first is otherwise", x.tells(3, 0, 0, 0), 0);
        x.copy(2, 0, 3, 0, 5);
        e.due("1 .. 5", x.tells(3, 0, 0, 0), NONE);
        x.copy(3, 0, 3, 1, 4);
        x.copy(3, 1, 3, 0, 4);
        e.due("1 .. 4 on and back, over each other", x.tells(3, 0, 0, 0), 4);
        e.changesNothing(Edges::grown, "copy() of all onto itself", y -> y.copy(0, 0, 0, 0, 6), 6);
        e.sentence("Promise 28", "BAD: no such SHEET; -11; -13: they are of unlike sorts; -12 (also with n below 0).");
        e.range("copy(sheet, 0, 0, 0, 0)", (y, sheet) -> y.copy(sheet, 0, 0, 0, 0), 0, 0, 3, NOTHING, BAD);
        e.range("copy(0, 0, other, 0, 0)", (y, other) -> y.copy(0, 0, other, 0, 0), 0, 0, 3, NOTHING, BAD);
        e.refused("copy(3, 0, 4, 0, 0), missing, and none such", y -> y.copy(3, 0, 4, 0, 0), BAD);
        e.refused("copy(4, 0, 3, 0, 0), missing, and none such", y -> y.copy(4, 0, 3, 0, 0), BAD);
        e.refused("copy(3, 0, 3, 0, 0), missing", y -> y.copy(3, 0, 3, 0, 0), NOTHING);
        e.refused("copy(0, 9, 3, 9, -1), missing, and outside", y -> y.copy(0, 9, 3, 9, -1), NOTHING);
        for (int sheet = 0; sheet < 3; sheet++) {
            int one = sheet;
            int other = (sheet + 1) % 3;
            e.refused("copy(" + one + ", 0, " + other + ", 0, 1)", y -> y.copy(one, 0, other, 0, 1), UNLIKE);
            e.refused("copy(" + other + ", 9, " + one + ", 9, -1)", y -> y.copy(other, 9, one, 9, -1), UNLIKE);
            e.refused("copy() of none of unlike sorts", y -> y.copy(one, 0, other, 0, 0), UNLIKE);
        }
        int[][] outside = {{HIGH, 0, 1}, {0, HIGH, 1}, {HIGH, HIGH, HIGH}, {1, 1, HIGH}, {LOW, 0, 0}, {0, LOW, 0}, {1, 0, LOW}, {6, 0, 1}, {0, 6, 1}, {7, 0, 0}, {0, 7, 0}};
        for (int[] o : outside) {
            e.refused("copy(0, " + o[0] + ", 0, " + o[1] + ", " + o[2] + ")", y -> y.copy(0, o[0], 0, o[1], o[2]), OUTSIDE);
        }
    }

    private static SandInTheShoe twoRows() {
        SandInTheShoe x = Edges.grown();
        x.sheet(3, 0, 5);
        return x;
    }

    private void people() {
        e.sentence("Promise 29", "PEOPLE by a SHEET that is taken for one of a sort: from one on, two by two (as of person()), n of them (0 .. 5): how many came (others are left out).");
        e.range(PromiseEdgeTests::listed, "people(3, 2, 0, n)", (x, n) -> x.people(3, 2, 0, n), 0, 0, 5, 4, BAD);
        SandInTheShoe x = listed();
        x.people(3, 2, 0, 5);
        int[] kinds = {0, 5, 1, 2};
        int[] numbers = {9, 0, 8, 3};
        for (int one = 0; one < 4; one++) {
            e.due("KIND of " + one, x.told(one, 4), kinds[one]);
            e.due("NUMBER of " + one, x.told(one, 2), numbers[one]);
            e.due("SHOE of " + one, x.told(one, 6), 0);
        }
        e.due("people(), one has room", x.people(3, 2, 0, 2), 1);
        e.due("people(), none has room", x.people(3, 2, 0, 5), 0);
        e.due("all", x.count(0), 5);
        int[] bad = {-1, 0, 6, 0, 0, -1, 0, 10, 256, 1};
        SandInTheShoe y = new SandInTheShoe();
        Edges.row(y, 0, 2, bad);
        e.due("people(), none such", y.people(0, 2, 0, 5), 0);
        e.due("nobody", y.count(0), 0);
        e.sentence("Promise 29", "BAD: no such SHEET, sort, n; -13; -11; -12: what stood ahead came.");
        e.range("people(sheet, 2, 0, 0)", (z, sheet) -> z.people(sheet, 2, 0, 0), 0, 0, 3, NOTHING, BAD);
        e.range("people(0, sort, 0, 1)", (z, sort) -> z.people(0, sort, 0, 1), 0, UNLIKE, 2, 1, BAD);
        e.range("people(0, 2, from, 1)", (z, from) -> z.people(0, 2, from, 1), 0, 1, 4, 1, OUTSIDE);
        for (int sheet = 0; sheet < 3; sheet++) {
            int other = sheet;
            e.refused("people(" + sheet + ", another sort, -1, 5)", z -> z.people(other, other == 1 ? 1 : 0, -1, 5), UNLIKE);
            e.refused("people(3, " + sheet + ", -1, 5), missing", z -> z.people(3, other, -1, 5), NOTHING);
            e.refused("people(3, " + sheet + ", 0, 0), missing", z -> z.people(3, other, 0, 0), NOTHING);
        }
        e.refused("people(3, -1, 0, 0), missing, and no sort", z -> z.people(3, -1, 0, 0), BAD);
        e.refused("people(0, 0, 0, 6), another sort, and n", z -> z.people(0, 0, 0, 6), BAD);
        e.refused(PromiseEdgeTests::crowded, "people(0, 2, 4, 2), no room, and outside", z -> z.people(0, 2, 4, 2), OUTSIDE);
        cameAhead();
    }

    /** Ints 0 9, 5 0, 6 0, 1 8, 2 3: of five the third is none such. */
    private static SandInTheShoe listed() {
        SandInTheShoe x = new SandInTheShoe();
        Edges.row(x, 3, 2, 0, 9, 5, 0, 6, 0, 1, 8, 2, 3);
        return x;
    }

    private void cameAhead() {
        SandInTheShoe x = listed();
        e.due("people(), the second is outside", x.people(3, 2, 8, 2), OUTSIDE);
        e.due("the first came", x.count(0), 1);
        e.due("KIND", x.told(0, 4), 2);
        e.due("people(), half of the third is outside", x.people(3, 2, 5, 3), OUTSIDE);
        // 0 6 came, 0 1 came, of 8 2 the KIND is none such: half a pair is 3 at the end, and that is not asked.
        e.due("those ahead of it", x.count(0), 2);
        e.due("people(), half a pair alone", x.people(3, 2, 9, 1), OUTSIDE);
        e.due("people() behind the last", x.people(3, 2, 10, 1), OUTSIDE);
        e.due("nobody more", x.count(0), 2);
    }

    private void taken() {
        e.sentence("Promise 30", "One of PEOPLE taken for one of KIND k (0 .. 5), or one under that one (also by others between): the NUMBER. BAD: k; -11: none such; -13.");
        e.range("taken(0, k)", (x, k) -> x.taken(0, k), 0, 3, 5, UNLIKE, BAD);
        e.range("taken(one, 0)", (x, one) -> x.taken(one, 0), 0, 3, 2, 5, NOTHING);
        e.refused("taken(3, 6), nobody, and k", x -> x.taken(3, 6), BAD);
        e.refused("taken(-1, -1), nobody, and k", x -> x.taken(-1, -1), BAD);
        e.changesNothing(Edges::grown, "taken(1, 3): a CAPTAIN for one", x -> x.taken(1, 3), 9);
        e.changesNothing(Edges::grown, "taken(1, 1): a CAPTAIN for a SAILOR", x -> x.taken(1, 1), 9);
        e.changesNothing(Edges::grown, "taken(1, 0): a CAPTAIN for a PERSON", x -> x.taken(1, 0), 9);
        e.changesNothing(Edges::grown, "taken(2, 2): a PROFESSOR for a CLERK", x -> x.taken(2, 2), 5);
        e.refused("taken(1, 2): a CAPTAIN for a CLERK", x -> x.taken(1, 2), UNLIKE);
        e.refused("taken(2, 1): a PROFESSOR for a SAILOR", x -> x.taken(2, 1), UNLIKE);
        e.refused("taken(0, 1): a PERSON for a SAILOR", x -> x.taken(0, 1), UNLIKE);
        for (int k = 0; k < 6; k++) {
            int kind = k;
            e.refused(PromiseEdgeTests::fresh, "taken(0, " + k + ") of nobody", x -> x.taken(0, kind), NOTHING);
        }
    }

    public static void main(String[] args) throws IOException {
        PromiseEdgeTests t = new PromiseEdgeTests(new Edges(args));
        t.newObject();
        t.set();
        t.person();
        t.told();
        t.asks();
        t.feed();
        t.text();
        t.force();
        t.stay();
        t.shake();
        t.like();
        t.odd();
        t.mean();
        t.stays();
        t.pack();
        t.fit();
        t.share();
        t.go();
        t.tells();
        t.film();
        t.drawn();
        t.chance();
        t.imageAndBack();
        t.count();
        t.sheet();
        t.cell();
        t.copy();
        t.people();
        t.taken();
        t.e.ends("PromiseEdgeTests");
    }
}
