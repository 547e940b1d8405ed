import java.io.IOException;
import java.nio.file.Files;
import java.nio.file.Path;
import java.util.ArrayList;
import java.util.HashSet;
import java.util.List;
import java.util.Set;

/** What the tests of the document's edges share: the sentence that is tested, answers that are due, twins. */
final class Edges {
    static final int NONE = -1, BAD = -2, STATE = -3, FULL = -4;
    static final int NOTHING = -11, OUTSIDE = -12, UNLIKE = -13, BELOW = -14;
    static final long NO = -4611686018427387904L;
    static final int LOW = Integer.MIN_VALUE, HIGH = Integer.MAX_VALUE;

    /** Makes an object, each time alike. */
    interface Made {
        SandInTheShoe anew();
    }

    interface Call {
        long on(SandInTheShoe x);
    }

    /** A call of which one number is varied. */
    interface Varied {
        long on(SandInTheShoe x, int v);
    }

    private final String document;
    private String place = "";
    private String sentence = "";
    private final Set<String> sentences = new HashSet<>();
    private int answers = 0;
    private int wrong = 0;

    /** The sentences are looked up in the document, if its path is there. */
    Edges(String[] args) throws IOException {
        document = args.length > 0 ? Files.readString(Path.of(args[0])) : null;
    }

    /** What follows is due by this sentence of the document. */
    void sentence(String newPlace, String words) {
        place = newPlace;
        sentence = words;
        sentences.add(words);
        if (document != null && !document.contains(words)) {
            wrong("the document doesn't say that");
        }
    }

    private void wrong(String what) {
        wrong++;
        System.out.println(place + ", «" + sentence + "»: " + what);
    }

    void due(String call, long got, long want) {
        answers++;
        if (got != want) {
            wrong(call + " answered " + got + ", due is " + want);
        }
    }

    /** The call answers so, and all that can be told is as if it had not been made. */
    void changesNothing(Made made, String call, Call asked, long want) {
        SandInTheShoe x = made.anew();
        due(call, asked.on(x), want);
        List<String> with = look(x);
        List<String> without = look(made.anew());
        for (int i = 0; i < without.size(); i++) {
            if (i >= with.size() || !with.get(i).equals(without.get(i))) {
                wrong("behind " + call + " " + (i < with.size() ? with.get(i) : "nothing") + ", without it " + without.get(i));
                return;
            }
        }
        answers += without.size();
    }

    void refused(Made made, String call, Call asked, long want) {
        changesNothing(made, "refused " + call, asked, want);
    }

    void refused(String call, Call asked, long want) {
        refused(Edges::grown, call, asked, want);
    }

    /** The least and the most of a number are let in and answered so; what is next to them and far off is refused. */
    void range(Made made, String call, Varied asked, int least, long ofLeast, int most, long ofMost, long refusal) {
        due(call + ", the least: " + least, asked.on(made.anew(), least), ofLeast);
        due(call + ", the most: " + most, asked.on(made.anew(), most), ofMost);
        int[] outside = {least - 1, most + 1, LOW, HIGH};
        for (int v : outside) {
            refused(made, call + ", outside: " + v, x -> asked.on(x, v), refusal);
        }
    }

    void range(String call, Varied asked, int least, long ofLeast, int most, long ofMost, long refusal) {
        range(Edges::grown, call, asked, least, ofLeast, most, ofMost, refusal);
    }

    void ends(String name) {
        System.out.println(name + ": " + sentences.size() + " sentences, " + answers + " answers, " + wrong + " not as due");
        if (wrong != 0) {
            System.exit(1);
        }
    }

    // ---- objects

    static void feed(SandInTheShoe x, String tape) {
        for (int i = 0; i < tape.length(); i++) {
            x.feed(tape.charAt(i));
        }
    }

    static int read(SandInTheShoe x, String tape) {
        feed(x, tape);
        return x.text();
    }

    static int read(String tape) {
        return read(new SandInTheShoe(), tape);
    }

    /** The text becomes the rule. */
    static SandInTheShoe rule(SandInTheShoe x, String takes, String keeps, String sure) {
        x.force(read(x, "takes " + takes + ";keeps " + keeps + ";sure " + sure + ";"));
        return x;
    }

    static SandInTheShoe with(int kind, int number) {
        SandInTheShoe x = new SandInTheShoe();
        x.person(kind, number);
        return x;
    }

    static void shoe(SandInTheShoe x, int one, int... grains) {
        for (int m = 0; m < grains.length; m++) {
            x.set(3, 10 * one + m, grains[m]);
        }
    }

    static void coast(SandInTheShoe x, int coast, int... grains) {
        for (int m = 0; m < grains.length; m++) {
            x.set(1, 10 * coast + m, grains[m]);
        }
    }

    static void row(SandInTheShoe x, int sheet, int sort, int... numbers) {
        x.sheet(sheet, sort, numbers.length);
        for (int i = 0; i < numbers.length; i++) {
            x.cell(sheet, i, numbers[i]);
        }
    }

    /**
     * An object with something of everything, by some 90 calls: three of PEOPLE (a PERSON of NUMBER 3, a CAPTAIN of 9,
     * a PROFESSOR of 5), DAY 8, two TEXTS, an IMAGE, a TAPE without its last byte, SHEETS of all sorts, the last missing.
     */
    static SandInTheShoe grown() {
        SandInTheShoe x = new SandInTheShoe();
        coast(x, 0, 1, 2, 3, 4, 5, 6);
        x.set(1, 50, 10);
        x.set(1, 55, 99);
        x.person(0, 3);
        x.person(3, 9);
        x.person(4, 5);
        x.image();
        shoe(x, 0, 10, 0, 20, 0, 0, 30);
        x.set(3, 10, 9999);
        x.set(3, 15, 1);
        x.set(0, 0, 7);
        x.stay(2, 0);
        read(x, "takes day;keeps 40;sure 9;");
        row(x, 0, 2, 1, 2, 3, 4, 5, 6);
        row(x, 1, 0, 1, 2, 3, 5);
        row(x, 2, 1, 0, 3, 5, 9, 6, 1, 1, 1);
        feed(x, "takes 3;keeps 60;sure 4");
        return x;
    }

    // ---- looking at all that an object tells

    /** By some 300 calls; some of them change the object, so it is of no use behind that. */
    private static List<String> look(SandInTheShoe x) {
        List<String> seen = new ArrayList<>();
        lookAround(x, seen);
        for (int sheet = 0; sheet < 4; sheet++) {
            lookAtSheet(x, sheet, seen);
        }
        for (int text = 0; text < 6; text++) {
            lookAtText(x, text, seen);
        }
        see(seen, "feed(59)", x.feed(';'));
        int read = x.text();
        see(seen, "text()", read);
        lookAtText(x, read, seen);
        lookAtCells(x, seen);
        see(seen, "back()", x.back());
        lookAround(x, seen);
        return seen;
    }

    private static void see(List<String> seen, String call, long answer) {
        seen.add(call + " answers " + answer);
    }

    private static void lookAround(SandInTheShoe x, List<String> seen) {
        for (int what = 0; what < 6; what++) {
            see(seen, "count(" + what + ")", x.count(what));
        }
        for (int place = 0; place < 36; place++) {
            int of = place / 6 * 10 + place % 6;
            see(seen, "told(" + of + ", 1)", x.told(of, 1));
            if (of < 50) {
                see(seen, "told(" + of + ", 3)", x.told(of, 3));
            }
        }
        for (int one = 0; one < 5; one++) {
            see(seen, "told(" + one + ", 2)", x.told(one, 2));
            see(seen, "told(" + one + ", 4)", x.told(one, 4));
            see(seen, "told(" + one + ", 5)", x.told(one, 5));
        }
    }

    private static void lookAtSheet(SandInTheShoe x, int sheet, List<String> seen) {
        for (int sort = 0; sort < 3; sort++) {
            see(seen, "people(" + sheet + ", " + sort + ", 0, 0)", x.people(sheet, sort, 0, 0));
        }
        see(seen, "the size of sheet " + sheet, sizeOf(x, sheet));
    }

    private static int sizeOf(SandInTheShoe x, int sheet) {
        int size = -1;
        while (size <= 40 && x.copy(sheet, size + 1, sheet, size + 1, 0) == 0) {
            size++;
        }
        return size;
    }

    private static void lookAtText(SandInTheShoe x, int text, List<String> seen) {
        see(seen, "force(" + text + ")", x.force(text));
        see(seen, "asks(0, 0, 0)", x.asks(0, 0, 0));
        see(seen, "asks(0, 0, 6)", x.asks(0, 0, 6));
        see(seen, "asks(0, 0, 7)", x.asks(0, 0, 7));
    }

    /** Items 0 .. 99 are told as the DAY of which TEXT 1 of a grown object tells as much; the last SHEET goes by it. */
    private static void lookAtCells(SandInTheShoe x, List<String> seen) {
        x.force(1);
        for (int sheet = 0; sheet < 3; sheet++) {
            int size = sizeOf(x, sheet);
            if (size < 1) {
                continue;
            }
            int sort = 0;
            while (sort < 2 && x.people(sheet, sort, 0, 0) != 0) {
                sort++;
            }
            x.sheet(3, sort, 1);
            for (int i = 0; i < size; i++) {
                x.copy(sheet, i, 3, 0, 1);
                see(seen, "item " + i + " of sheet " + sheet, x.tells(3, 0, 0, 4));
            }
        }
    }
}
