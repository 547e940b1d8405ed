import java.io.IOException;

/** For each sentence of the document's terms that names an edge: the last on this side of it, the first beyond. */
public final class TermsEdgeTests {
    private static final int NONE = Edges.NONE, BAD = Edges.BAD, STATE = Edges.STATE, FULL = Edges.FULL;
    private static final int NOTHING = Edges.NOTHING, OUTSIDE = Edges.OUTSIDE, UNLIKE = Edges.UNLIKE, BELOW = Edges.BELOW;
    private static final int LOW = Edges.LOW, HIGH = Edges.HIGH;
    private static final long NO = Edges.NO;
    private static final int PERSON = 0, SAILOR = 1, CLERK = 2, CAPTAIN = 3, PROFESSOR = 4, CHILD = 5;
    private static final String REST = ";keeps 1;sure 1;";

    private final Edges e;

    private TermsEdgeTests(Edges e) {
        this.e = e;
    }

    // ---- 1: coasts, people

    private void calls() {
        e.sentence("What it is", "An object is used for at most 512 calls after it has been made");
        SandInTheShoe x = Edges.with(0, 0);
        for (int call = 2; call < 512; call++) {
            e.due("call " + call, x.stay(0, 0), 0);
        }
        e.due("call 512", x.told(0, 5), 510);
        SandInTheShoe y = new SandInTheShoe();
        for (int call = 1; call <= 512; call++) {
            e.due("feed(), call " + call, y.feed(' '), call <= 160 ? call : FULL);
        }
    }

    private void coasts() {
        e.sentence("Terms 1", "COASTS 0 .. 5, each with GRAINS of MARKS 0 .. 5 (0 .. 99; 0 at first).");
        SandInTheShoe x = new SandInTheShoe();
        for (int coast = -1; coast <= 6; coast++) {
            for (int mark = -1; mark <= 6; mark++) {
                boolean is = coast >= 0 && coast < 6 && mark >= 0 && mark < 6;
                int of = 10 * coast + mark;
                // MARK -1 of a COAST stands where MARK 9 of the one ahead of it would.
                e.due("set(1, " + of + ", 99)", x.set(1, of, 99), is ? 0 : BAD);
                e.due("told(" + of + ", 1)", x.told(of, 1), is ? 99 : BAD);
            }
        }
        for (int coast = 0; coast < 6; coast++) {
            e.due("all GRAINS of " + coast, x.told(coast, 7), 6 * 99);
        }
        e.range(TermsEdgeTests::bare, "GRAINS of a MARK on a COAST", (y, v) -> y.set(1, 23, v), 0, 0, 99, 0, BAD);
    }

    private static SandInTheShoe bare() {
        return Edges.with(PERSON, 0);
    }

    private void day() {
        e.sentence("Terms 1", "DAY (0 .. 999; 0 at first).");
        e.due("DAY at first", bare().count(1), 0);
        e.range(TermsEdgeTests::bare, "DAY", (x, v) -> x.set(0, 0, v), 0, 0, 999, 0, BAD);
        SandInTheShoe x = bare();
        x.set(0, 0, 999);
        e.due("DAY 1000", x.set(0, 0, 1000), BAD);
        e.due("DAY stays", x.told(0, 0), 999);
        e.due("DAY, too, when one may not stay", x.stay(0, 0), STATE);
        e.due("DAY stays", x.told(0, 0), 999);
    }

    private void people() {
        e.sentence("Terms 1", "PEOPLE (5 at most, numbered from 0) have a KIND");
        SandInTheShoe x = new SandInTheShoe();
        for (int one = 0; one < 5; one++) {
            e.due("nobody of number " + one, x.told(one, 4), BAD);
            e.due("person(" + (5 - one) + ", " + one + ")", x.person(5 - one, one), one);
            e.due("KIND of " + one, x.told(one, 4), 5 - one);
            e.due("PEOPLE", x.count(0), one + 1);
        }
        for (int kind = 0; kind < 6; kind++) {
            e.due("person(" + kind + ", 0), a sixth", x.person(kind, 0), FULL);
        }
        e.due("nobody of number 5", x.told(5, 4), BAD);
        e.due("PEOPLE", x.count(0), 5);
        kinds();
        e.sentence("Terms 1", "a NUMBER (0 .. 9)");
        e.range("NUMBER, as one comes", (y, v) -> y.person(0, v), 0, 3, 9, 3, BAD);
        e.range("NUMBER, later", (y, v) -> y.set(2, 0, v), 0, 3, 9, 3, BAD);
    }

    private void kinds() {
        e.sentence("Terms 1", "0 PERSON, 1 SAILOR under PERSON, 2 CLERK under PERSON, 3 CAPTAIN under SAILOR, 4 PROFESSOR under CLERK, 5 CHILD under PERSON");
        e.range("KIND", (x, v) -> x.person(v, 0), 0, 3, 5, 3, BAD);
        int[] above = {1, 1 + 2, 1 + 4, 1 + 2 + 8, 1 + 4 + 16, 1 + 32};
        for (int kind = 0; kind < 6; kind++) {
            SandInTheShoe x = Edges.with(kind, kind);
            for (int k = 0; k < 6; k++) {
                e.due("KIND " + kind + " for " + k, x.taken(0, k), (above[kind] >> k & 1) == 1 ? kind : UNLIKE);
            }
        }
    }

    private void shoes() {
        e.sentence("Terms 1", "in the SHOE so many GRAINS of each MARK (0 .. 9999; 0 as one comes)");
        SandInTheShoe x = new SandInTheShoe();
        for (int one = 0; one < 5; one++) {
            for (int mark = 0; mark < 6; mark++) {
                int of = 10 * one + mark;
                e.due("set() for nobody", x.set(3, of, 1), BAD);
            }
            x.person(one, 0);
            for (int mark = 0; mark < 6; mark++) {
                int of = 10 * one + mark;
                e.due("told(" + of + ", 3), as one comes", x.told(of, 3), 0);
                e.due("set(3, " + of + ", 9999)", x.set(3, of, 9999), 0);
                e.due("set(3, " + of + ", 10000)", x.set(3, of, 10000), BAD);
                e.due("told(" + of + ", 3)", x.told(of, 3), 9999);
            }
            e.due("all GRAINS", x.told(one, 6), 59994);
        }
        e.due("GRAINS of all SHOES", x.count(2), 299970);
        e.sentence("Terms 1", "are OUT so many DAYS (0 .. 9999; 0)");
        // 9999 DAYS are beyond 512 calls, where nothing is promised; the class keeps to the bound there, too.
        SandInTheShoe y = bare();
        for (int days = 0; days < 10002; days++) {
            e.due("OUT", y.told(0, 5), Math.min(days, 9999));
            y.stay(0, days % 6);
            y.set(0, 0, days % 999);
        }
    }

    private void constants() {
        e.sentence("Terms 1", "NONE is -1; NO, where a long is answered, -4611686018427387904.");
        e.due("NONE", SandInTheShoe.NONE, -1);
        e.due("NO", SandInTheShoe.NO, -4611686018427387904L);
        e.sentence("Terms 1", "BAD (-2: a number is none such or not as told), STATE (-3), FULL (-4)");
        e.due("BAD", SandInTheShoe.BAD, -2);
        e.due("STATE", SandInTheShoe.STATE, -3);
        e.due("FULL", SandInTheShoe.FULL, -4);
        e.sentence("Terms 1", "the host's: -11 nothing where something is asked, -12 a place outside, -13 a thing of another sort or KIND, -14 a size below 0.");
        SandInTheShoe x = bare();
        e.due("-11, a SHEET", x.cell(0, 0, 0), NOTHING);
        e.due("-11, one of PEOPLE", x.taken(1, 0), NOTHING);
        x.sheet(0, 0, 1);
        x.sheet(1, 1, 1);
        e.due("-12", x.cell(0, 1, 0), OUTSIDE);
        e.due("-13, a sort", x.copy(0, 0, 1, 0, 1), UNLIKE);
        e.due("-13, a KIND", x.taken(0, 1), UNLIKE);
        e.due("-14", x.sheet(0, 0, -1), BELOW);
    }

    /** Of each two refusals that may meet the one that the call's words name first. */
    private void order() {
        e.sentence("Terms 1", "Refusals, the first that the call's words name; they change nothing");
        SandInTheShoe x = Edges.grown();
        x.person(0, 0);
        x.person(0, 0);
        x.set(0, 0, 999);
        e.due("BAD ahead of FULL", x.person(0, 10), BAD);
        e.due("FULL", x.person(0, 9), FULL);
        e.due("BAD ahead of STATE", x.stay(5, 0), BAD);
        e.due("STATE", x.stay(4, 0), STATE);
        e.due("fit(): BAD ahead of -11", x.fit(3, 5, 0), BAD);
        e.due("fit(): -11", x.fit(3, 4, 0), NOTHING);
        e.due("tells(): BAD ahead of -11", x.tells(3, 0, 6, 0), BAD);
        e.due("tells(): -11", x.tells(3, 0, 5, 0), NOTHING);
        e.due("sheet(): BAD ahead of -14", x.sheet(0, 3, -1), BAD);
        e.due("sheet(): -14", x.sheet(0, 2, -1), BELOW);
        e.due("cell(): BAD ahead of -11", x.cell(4, 0, 0), BAD);
        e.due("cell(): -11 ahead of -12", x.cell(3, -1, 0), NOTHING);
        e.due("cell(): -12", x.cell(2, -1, 0), OUTSIDE);
        e.due("copy(): BAD ahead of -11", x.copy(3, 0, 4, 0, -1), BAD);
        e.due("copy(): -11 ahead of -13 and -12", x.copy(3, 0, 2, 0, -1), NOTHING);
        e.due("copy(): -13 ahead of -12", x.copy(1, 0, 2, 0, -1), UNLIKE);
        e.due("copy(): -12", x.copy(1, 0, 1, 0, -1), OUTSIDE);
        e.due("people(): BAD ahead of -13", x.people(0, 0, -1, 6), BAD);
        e.due("people(): -13 ahead of -12", x.people(0, 0, -1, 5), UNLIKE);
        e.due("people(): BAD ahead of -11", x.people(3, 0, -1, 6), BAD);
        e.due("people(): -11 ahead of -12", x.people(3, 0, -1, 5), NOTHING);
        e.due("people(): -12", x.people(0, 2, -1, 5), OUTSIDE);
        e.due("taken(): BAD ahead of -11", x.taken(5, 6), BAD);
        e.due("taken(): -11", x.taken(5, 5), NOTHING);
        e.due("taken(): -13", x.taken(4, 5), UNLIKE);
    }

    // ---- 1: takes, keeps, sure

    private static int takes(int kind, int number, int mark, int v) {
        SandInTheShoe x = Edges.with(kind, number);
        x.set(1, 40 + mark, v);
        return x.asks(0, mark, 4);
    }

    private void takes() {
        e.sentence("Terms 1", "PERSON: v; SAILOR: twice a PERSON's; CLERK: half (cut) of a PERSON's; CAPTAIN: NUMBER more than a SAILOR, if m is NUMBER modulo 6, else as a SAILOR; PROFESSOR: as a CLERK, but 0 of MARK 5; CHILD: m more than a PERSON.");
        for (int v = 0; v < 100; v++) {
            for (int mark = 0; mark < 6; mark++) {
                e.due("a PERSON by " + v, takes(PERSON, 9, mark, v), v);
                e.due("a SAILOR by " + v, takes(SAILOR, 9, mark, v), v < 50 ? v + v : 99);
                e.due("a CLERK by " + v, takes(CLERK, 9, mark, v), (v - v % 2) / 2);
                e.due("a PROFESSOR by " + v, takes(PROFESSOR, 9, mark, v), mark < 5 ? (v - v % 2) / 2 : 0);
                e.due("a CHILD by " + v, takes(CHILD, 9, mark, v), v + mark > 99 ? 99 : v + mark);
            }
        }
        for (int number = 0; number < 10; number++) {
            int itsMark = number < 6 ? number : number - 6;
            for (int mark = 0; mark < 6; mark++) {
                int more = mark == itsMark ? number : 0;
                e.due("CAPTAIN " + number + " by 0", takes(CAPTAIN, number, mark, 0), more);
                e.due("CAPTAIN " + number + " by 40", takes(CAPTAIN, number, mark, 40), 80 + more);
                e.due("CAPTAIN " + number + " by 45", takes(CAPTAIN, number, mark, 45), 90 + more);
                e.due("CAPTAIN " + number + " by 49", takes(CAPTAIN, number, mark, 49), more > 0 ? 99 : 98);
                e.due("CAPTAIN " + number + " by 99", takes(CAPTAIN, number, mark, 99), 99);
            }
        }
    }

    private static int keeps(int kind, int grains, String told) {
        SandInTheShoe x = Edges.rule(Edges.with(kind, 9), "0", told, "0");
        x.set(3, 2, grains);
        return x.asks(0, 2, 6);
    }

    private void keeps() {
        e.sentence("Terms 1", "PERSON: g times v by 100 (cut); SAILOR: as a PERSON; CLERK: g; CAPTAIN: half (cut) of a SAILOR's; PROFESSOR: 10 less than a CLERK; CHILD: 0.");
        int[] grains = {0, 1, 1, 2, 2, 3, 3, 9, 10, 11, 99, 100, 199, 199, 9999, 9999, 9999, 9999};
        int[] told = {100, 99, 100, 49, 50, 33, 100, 100, 10, 9, 1, 1, 1, 99, 100, 99, 1, 0};
        int[] kept = {0, 0, 1, 0, 1, 0, 3, 9, 1, 0, 0, 1, 1, 197, 9999, 9899, 99, 0};
        for (int i = 0; i < grains.length; i++) {
            int g = grains[i];
            String v = Integer.toString(told[i]);
            String by = g + " by " + v;
            e.due("a PERSON " + by, keeps(PERSON, g, v), kept[i]);
            e.due("a SAILOR " + by, keeps(SAILOR, g, v), kept[i]);
            e.due("a CLERK " + by, keeps(CLERK, g, v), g);
            e.due("a CAPTAIN " + by, keeps(CAPTAIN, g, v), (kept[i] - kept[i] % 2) / 2);
            e.due("a PROFESSOR " + by, keeps(PROFESSOR, g, v), g < 10 ? 0 : g - 10);
            e.due("a CHILD " + by, keeps(CHILD, g, v), 0);
        }
        // 199 by 51 is 101.49, half of that 50.745.
        e.due("a CAPTAIN, cut twice", keeps(CAPTAIN, 199, "51"), 50);
    }

    private static int sure(int kind, int number, String told) {
        return Edges.rule(Edges.with(kind, number), "0", "0", told).asks(0, 0, 7);
    }

    private void sure() {
        e.sentence("Terms 1", "PERSON: v; SAILOR: as a PERSON; CLERK: NUMBER more than a PERSON; CAPTAIN: 0; PROFESSOR: twice a CLERK's; CHILD: 1.");
        int[] told = {0, 1, 98, 99};
        for (int v : told) {
            for (int number = 0; number < 10; number += 9) {
                String by = number + " by " + v;
                String tells = Integer.toString(v);
                e.due("PERSON " + by, sure(PERSON, number, tells), v);
                e.due("SAILOR " + by, sure(SAILOR, number, tells), v);
                e.due("CLERK " + by, sure(CLERK, number, tells), v + number);
                e.due("CAPTAIN " + by, sure(CAPTAIN, number, tells), 0);
                e.due("PROFESSOR " + by, sure(PROFESSOR, number, tells), v + v + number + number);
                e.due("CHILD " + by, sure(CHILD, number, tells), 1);
            }
        }
        e.sentence("Terms 1", "(TAKES 0 .. 99, SURE 0 .. 999, else the bound; KEEPS 0 at least.)");
        e.due("TAKES: 98", takes(SAILOR, 0, 0, 49), 98);
        e.due("TAKES: 99 for 100", takes(SAILOR, 0, 0, 50), 99);
        e.due("TAKES: 99", takes(CHILD, 0, 5, 94), 99);
        e.due("TAKES: 99 for 100", takes(CHILD, 0, 5, 95), 99);
        e.due("TAKES: 99", takes(CAPTAIN, 9, 3, 45), 99);
        e.due("TAKES: 99 for 101", takes(CAPTAIN, 9, 3, 46), 99);
        e.due("SURE: the most that there is", sure(PROFESSOR, 9, "99"), 216);
        e.due("KEEPS: 1", keeps(PROFESSOR, 11, "0"), 1);
        e.due("KEEPS: 0", keeps(PROFESSOR, 10, "0"), 0);
        e.due("KEEPS: 0 for -1", keeps(PROFESSOR, 9, "0"), 0);
        e.due("KEEPS: 0 for -10", keeps(PROFESSOR, 0, "100"), 0);
        e.sentence("Terms 1", "Quotients are cut toward 0.");
        e.due("half of 1", takes(CLERK, 0, 0, 1), 0);
        e.due("half of 99", takes(CLERK, 0, 0, 99), 49);
        e.due("99 by 100", keeps(PERSON, 1, "99"), 0);
        e.due("199 by 100", keeps(PERSON, 199, "1"), 1);
    }

    // ---- 1: the tape, tokens

    private void fault(String tape, int place) {
        e.due("the text «" + tape + "»", Edges.read(tape), -100 - place);
    }

    private void reads(String tape) {
        e.due("the text «" + tape + "»", Edges.read(tape), 1);
    }

    private void tape() {
        e.sentence("Terms 1", "A TEXT is read from THE TAPE (160 bytes at most).");
        String text = "takes 1;keeps 1;sure 1;";
        reads(text + " ".repeat(160 - text.length()));
        reads(" ".repeat(160 - text.length()) + text);
        // What comes behind 160 bytes is refused: of 161 the last is not there.
        reads(text + " ".repeat(160 - text.length()) + "x");
        fault(" ".repeat(161 - text.length()) + text, 160);
        reads("takes " + "1+".repeat(68) + "1;keeps 1;sure 1;");
        fault("takes " + "1+".repeat(69) + "1;keeps 1;sure 1;", 160);
        reads("takes " + "not 1 and ".repeat(13) + "1;keeps 1;sure 1;");
    }

    /** Each byte in three places; in a text that is right but for it. */
    private void bytes() {
        e.sentence("Terms 1", "TOKENS, each as long as can be: WORDS (a .. z), NUMBERS (as many digits as stand there, 4 at most), SIGNS ( ) ; + - * < = ; blanks (32, 10) may stand between.");
        for (int letter = 0; letter < 256; letter++) {
            boolean blank = letter == 32 || letter == 10;
            boolean digit = letter >= '0' && letter <= '9';
            boolean joins = letter == '+' || letter == '-' || letter == '*' || letter == '<' || letter == '=';
            char sign = (char) letter;
            String one = "byte " + letter;
            e.due(one + " alone", Edges.read("" + sign), blank ? -101 : -100);
            e.due(one + " ahead", Edges.read(sign + "takes 1" + REST), blank ? 1 : -100);
            e.due(one + " ahead of a ONE", Edges.read("takes " + sign + "1" + REST),
                blank || digit || sign == '-' ? 1 : sign == '(' ? -108 : -106);
            e.due(one + " behind a ONE", Edges.read("takes 1" + sign + REST),
                blank || digit ? 1 : joins || sign == ';' ? -108 : -107);
            e.due(one + " between two", Edges.read("takes 1" + sign + "1" + REST),
                digit || joins ? 1 : blank || sign == ';' ? -108 : -107);
            e.due(one + " at the end", Edges.read("takes 1;keeps 1;sure 1;" + sign), blank ? 1 : -123);
            // A letter makes another WORD of it.
            boolean small = letter >= 'a' && letter <= 'z';
            e.due(one + " behind a WORD", Edges.read("takes mark" + sign + REST),
                blank ? 1 : joins || sign == ';' ? -111 : small ? -106 : -110);
            e.due(one + " ahead of a WORD", Edges.read("takes " + sign + "mark" + REST),
                blank || sign == '-' ? 1 : sign == '(' ? -111 : digit ? -107 : -106);
            e.due(one + " in a WORD", Edges.read("takes ma" + sign + "rk" + REST), -106);
            e.due(one + " in a KEY", Edges.read("ta" + sign + "kes 1" + REST), -100);
        }
    }

    private void tokens() {
        reads("takes1;keeps1;sure1;");
        reads("\n takes\n\n1 ; \nkeeps  1\n;sure 1\n; \n");
        reads("takes(1);keeps(1);sure(1);");
        reads("takes not(1)and not-1 or(1);keeps 1;sure 1;");
        reads("takes 1or 2and 3;keeps 1;sure 1;");
        reads("takes 0;keeps 0000;sure 9999;");
        fault("takes 10000" + REST, 6);
        fault("takes 00000" + REST, 6);
        fault("takes 1000 0" + REST, 11);
        fault("takes 1+10000" + REST, 8);
        fault("takes 10000x" + REST, 6);
        fault("takes 1x" + REST, 7);
        fault("takes x1" + REST, 6);
        fault("takes mark1" + REST, 10);
        fault("takes 1mark" + REST, 7);
        fault("takes markday" + REST, 6);
        fault("ta kes 1" + REST, 0);
        fault("takes1;keep s1;sure1;", 7);
        fault("takes 1;keeps 1;sure 12345;", 21);
        fault("takes 1;keeps 1;sure 1234" + "5".repeat(60) + ";", 21);
        fault("takes " + "a".repeat(100) + REST, 6);
    }

    // ---- 1: texts

    private void texts() {
        e.sentence("Terms 1", "TEXT: takes E ; keeps E ; sure E ;");
        reads("takes 1;keeps 1;sure 1;");
        fault("takes 1;keeps 1;sure 1;;", 23);
        fault("takes 1;keeps 1;sure 1;takes 1;keeps 1;sure 1;", 23);
        fault("sure 1;keeps 1;takes 1;", 0);
        fault("takes 1;sure 1;keeps 1;", 8);
        fault("takes 1;keeps 1;keeps 1;", 16);
        for (String key : new String[] {"takes", "keeps", "sure", "or", "and"}) {
            fault("takes " + key + REST, 6);
            fault("takes 1 + " + key + REST, 10);
            fault("takes 1 " + key + ";", key.equals("or") || key.equals("and") ? 9 + key.length() - 1 : 8);
        }
        e.sentence("Terms 1", "NAMES are grains mark number day coast shoe; takes, keeps, sure, or, and, not are KEYS.");
        for (String name : new String[] {"grains", "mark", "number", "day", "coast", "shoe"}) {
            reads("takes " + name + ";keeps " + name + ";sure " + name + ";");
            fault("takes " + name + "s" + REST, 6);
            fault("takes " + name.substring(1) + REST, 6);
            fault("takes " + name.substring(0, name.length() - 1) + REST, 6);
            fault(name + " 1" + REST, 0);
        }
        otherWords();
    }

    /** Each WORD with one letter changed is another one, and none of them. */
    private void otherWords() {
        String[] words = {"grains", "mark", "number", "day", "coast", "shoe", "not", "or", "and", "takes", "keeps", "sure"};
        String[] ahead = {"takes ", "takes ", "takes ", "takes ", "takes ", "takes ", "takes ", "takes 1 ", "takes 1 ", "", "takes 1;", "takes 1;keeps 1;"};
        for (int i = 0; i < words.length; i++) {
            for (int at = 0; at < words[i].length(); at++) {
                for (char letter = 'a'; letter <= 'z'; letter++) {
                    if (letter != words[i].charAt(at)) {
                        String other = words[i].substring(0, at) + letter + words[i].substring(at + 1);
                        fault(ahead[i] + other + " 1" + REST, ahead[i].length());
                    }
                }
            }
        }
    }

    /** A text that ends too early behind so many of its tokens, or goes on with what can't stand there. */
    private void faults() {
        String[] tokens = {"takes", "1", ";", "keeps", "1", ";", "sure", "1", ";"};
        String[] ahead = new String[tokens.length];
        ahead[0] = "";
        for (int i = 1; i < tokens.length; i++) {
            ahead[i] = ahead[i - 1] + tokens[i - 1] + " ";
        }
        e.sentence("Terms 1", "FAULT: the place of the first byte of the first TOKEN that can't stand there (the text's size, if it ends too early)");
        for (int i = 0; i < tokens.length; i++) {
            int place = ahead[i].length();
            fault(ahead[i], place);
            fault(ahead[i] + " \n ", place + 3);
            fault(ahead[i] + "   )", place + 3);
            fault(ahead[i] + "not not", tokens[i].equals("1") ? place + 7 : place);
        }
        e.sentence("Terms 1", "also of a byte that begins none, a WORD that is neither KEY nor NAME, a NUMBER that is too long");
        for (String tokensAhead : ahead) {
            int place = tokensAhead.length();
            fault(tokensAhead + "!", place);
            fault(tokensAhead + "x", place);
            fault(tokensAhead + "00001", place);
            fault(tokensAhead + (char) 255 + (char) 0, place);
        }
    }

    private void grammar() {
        e.sentence("Terms 1", "E: AND { or AND }. AND: NOT { and NOT }.");
        reads("takes 1 or 1 or 1 and 1 and 1 or 1" + REST);
        fault("takes 1 or" + REST, 10);
        fault("takes 1 or or 1" + REST, 11);
        fault("takes 1 and or 1" + REST, 12);
        reads("takes 1 or not 1 and not 1" + REST);
        e.sentence("Terms 1", "NOT: not NOT, or SUM, perhaps < or = and a SUM.");
        reads("takes 1<2" + REST);
        reads("takes 1=2" + REST);
        fault("takes 1<2<3" + REST, 9);
        fault("takes 1=2=3" + REST, 9);
        fault("takes 1<2=3" + REST, 9);
        fault("takes 1=2<3" + REST, 9);
        fault("takes 1<=2" + REST, 8);
        fault("takes 1<not 2" + REST, 8);
        fault("takes <2" + REST, 6);
        fault("takes 1<" + REST, 8);
        reads("takes (1<2)<3" + REST);
        reads("takes 1<2 and 2<3 or 1=2" + REST);
        reads("takes not not 1<2" + REST);
        fault("takes not" + REST, 9);
        e.sentence("Terms 1", "SUM: TERM { + or - TERM }. TERM: ONE { * ONE }. ONE: a NUMBER, a NAME, - ONE, ( E ).");
        reads("takes 1+1-1*1*-1--1" + REST);
        reads("takes --1---1" + REST);
        reads("takes (1)" + REST);
        reads("takes -(1 or 1)*(not 1)" + REST);
        fault("takes 1**1" + REST, 8);
        fault("takes 1*" + REST, 8);
        fault("takes 1-+1" + REST, 8);
        fault("takes *1" + REST, 6);
        fault("takes +1" + REST, 6);
        fault("takes 1 1" + REST, 8);
        fault("takes (1" + REST, 8);
        fault("takes (1))" + REST, 9);
        fault("takes ()" + REST, 7);
        fault("takes -not 1" + REST, 7);
        fault("takes 1+not 1" + REST, 8);
        fault("takes 1*not 1" + REST, 8);
    }

    private void open() {
        e.sentence("Terms 1", "a ( , a not, a - ahead of a ONE while 5 of these are open (a ( till its ) , not and - till what they belong to ends).");
        // Each of 3 * 3 * 3 * 3 * 3 * 3 runs of six of them: the sixth can't stand there, nor a not behind a -.
        for (int run = 0; run < 729; run++) {
            openRun(run, 6);
            openRun(run, 5);
        }
        reads("takes -1-1-1-1-1-1-1" + REST);
        reads("takes (1)+(1)+(1)+(1)+(1)+(1)+(1)" + REST);
        reads("takes not 1 and not 1 and not 1 and not 1 and not 1 and not 1" + REST);
        reads("takes -1*-1*-1*-1*-1*-1*-1" + REST);
        reads("takes (((((1)-1))))" + REST);
        reads("takes (((((1)+(1)))))" + REST);
        fault("takes (((((1)+((1))))))" + REST, 15);
        reads("takes not not not not (1)" + REST);
        reads("takes not not not not (1) and not not not not -1" + REST);
        fault("takes not not not not (-1)" + REST, 23);
        fault("takes not not not not not 1<(1)" + REST, 28);
        reads("takes not not not not 1<(1)" + REST);
        fault("takes not not not not not 1+-1" + REST, 28);
        reads("takes not not not not not 1-1" + REST);
        reads("takes not not not not not 1 or (((((1)))))" + REST);
        reads("takes -----1-(((((1)))))" + REST);
        reads("takes ----(1)*(((((1)))))" + REST);
        reads("takes (((((1)))));keeps (((((1)))));sure -----1;");
    }

    /** The first five or six of a run of ( and not and - that are open at once, closed behind a ONE. */
    private void openRun(int run, int many) {
        String[] openers = {"(", "not ", "-"};
        StringBuilder tape = new StringBuilder("takes ");
        String ends = "";
        int place = -1;
        int before = -1;
        int rest = run;
        for (int i = 0; i < many; i++) {
            int opener = rest % 3;
            rest = rest / 3;
            if (place < 0 && (i == 5 || opener == 1 && before == 2)) {
                place = tape.length();
            }
            tape.append(openers[opener]);
            ends = opener == 0 ? ")" + ends : ends;
            before = opener;
        }
        String whole = tape + "1" + ends + REST;
        e.due("the text «" + whole + "»", Edges.read(whole), place < 0 ? 1 : -100 - place);
    }

    private static int takes(String expression) {
        return Edges.rule(bare(), expression, "0", "0").asks(0, 0, 0);
    }

    private void values() {
        e.sentence("Terms 1", "An E is an int (32 bits, wrapping): of or, and, not, <, = 1 or 0 (what is not 0 is true).");
        // 9999 * 9999 * 21 is 2099580021, and 4790 * 9999 + 8416 is 47903626: together the most.
        String most = "(9999*9999*21+4790*9999+8416)";
        e.due("the most", takes(most), 99);
        e.due("the most, compared", takes("0<" + most), 1);
        e.due("the most and 1", takes(most + "+1"), 0);
        e.due("the most and 1, compared", takes(most + "+1<0"), 1);
        e.due("the least less 1", takes("-" + most + "-2=" + most), 1);
        e.due("the least, turned", takes("-(-" + most + "-1)<0"), 1);
        e.due("twice the most", takes("2*" + most + "+5"), 3);
        e.due("the most times itself", takes(most + "*" + most), 1);
        e.due("65536 times itself", takes("8192*8*8192*8+7"), 7);
        String[] expressions = {
            "0 or 0", "0 or 5", "-1 or 0", "5 or 7", "0 and 0", "5 and 0", "0 and 5", "5 and 7", "-1 and -1",
            "not 0", "not 1", "not 5", "not -1", "not not 5", "1<1", "1<2", "2<1", "-1<0", "0<-1", "1=1", "1=2", "-1=-1",
            "(5 or 0)+(3 and 4)+(not 0)+(1<2)+(7=7)",
            "9+(0 or 0)", "9+(0 and 5)", "9+(not 5)", "9+(2<1)", "9+(2=1)", "not 0 and 0", "not 0=0", "not (0=0)", "1 or 0 and 0", "0 and 0 or 1"
        };
        int[] due = {
            0, 1, 1, 1, 0, 0, 0, 1, 1,
            1, 0, 0, 0, 1, 0, 1, 0, 1, 0, 1, 0, 1,
            5,
            9, 9, 9, 9, 9, 0, 0, 0, 1, 1
        };
        for (int i = 0; i < expressions.length; i++) {
            e.due(expressions[i], takes(expressions[i]), due[i]);
        }
    }

    private void sixTexts() {
        e.sentence("Terms 1", "There are 6 TEXTS at most, TEXT 0 with them.");
        SandInTheShoe x = bare();
        for (int text = 1; text < 6; text++) {
            e.due("TEXTS", x.count(3), text);
            e.due("TEXT " + text, Edges.read(x, "takes " + text + ";keeps 0;sure 0;"), text);
        }
        e.due("a seventh", Edges.read(x, "takes 6;keeps 0;sure 0;"), FULL);
        e.due("TEXTS", x.count(3), 6);
        e.due("force(6)", x.force(6), BAD);
        e.due("force(5)", x.force(5), 0);
        e.due("by TEXT 5", x.asks(0, 0, 0), 5);
        SandInTheShoe shorter = bare();
        Edges.read(shorter, "takes 5;keeps 6;sure not not not 7;");
        Edges.read(shorter, "takes not not not 8 + ;");
        e.due("a shorter TEXT behind longer ones", Edges.read(shorter, "takes 1;keeps 2;sure 3;"), 2);
        e.due("force(2)", shorter.force(2), 0);
        e.due("takes 1", shorter.asks(0, 0, 0), 1);
        e.due("sure 3, and nothing left of the longer ones", shorter.asks(0, 0, 7), 3);
        e.sentence("Terms 1", "TEXT 0, at first THE RULE, is: takes grains ; keeps 50 ; sure grains ;");
        SandInTheShoe y = bare();
        e.due("THE RULE at first", y.count(5), 0);
        e.due("TEXTS at first", y.count(3), 1);
        y.set(1, 55, 99);
        y.set(3, 5, 99);
        e.due("takes grains", y.asks(0, 5, 5), 99);
        e.due("keeps 50", y.asks(0, 5, 6), 49);
        e.due("sure grains", y.asks(0, 5, 7), 99);
        y.set(3, 5, 9999);
        e.due("sure, the bound", y.asks(0, 5, 7), 99);
    }

    private void names() {
        e.sentence("Terms 1", "grains: of takes GRAINS of that MARK on the COAST, else in the SHOE; mark: the MARK; number: NUMBER; day: DAY; coast: of takes the COAST, else 0; shoe: all GRAINS in the SHOE (of takes 0).");
        SandInTheShoe x = Edges.with(PERSON, 7);
        x.set(0, 0, 9);
        x.set(1, 53, 60);
        Edges.shoe(x, 0, 0, 0, 0, 20);
        Edges.rule(x, "grains", "grains", "grains");
        e.due("takes grains", x.asks(0, 3, 5), 60);
        e.due("keeps grains: 20 of 100", x.asks(0, 3, 6), 4);
        e.due("sure grains", x.asks(0, 3, 7), 20);
        Edges.rule(x, "10*mark+number", "10*mark+number", "10*mark+number");
        e.due("takes mark, number", x.asks(0, 3, 5), 37);
        e.due("keeps mark, number: 37 of 100", x.asks(0, 3, 6), 7);
        e.due("sure mark, number", x.asks(0, 3, 7), 37);
        Edges.rule(x, "day*10+coast", "day*10+coast*9", "day*10+coast");
        e.due("takes day, coast", x.asks(0, 3, 5), 95);
        e.due("takes day, the first coast", x.asks(0, 3, 0), 90);
        e.due("keeps day, no coast: 90 of 100", x.asks(0, 3, 6), 18);
        e.due("sure day, no coast", x.asks(0, 3, 7), 90);
        x.set(3, 0, 30);
        Edges.rule(x, "shoe", "shoe", "shoe");
        e.due("takes no shoe", x.asks(0, 3, 5), 0);
        e.due("keeps shoe: 50 of 100", x.asks(0, 3, 6), 10);
        e.due("sure shoe", x.asks(0, 3, 7), 50);
    }

    private void bounds() {
        e.sentence("Terms 1", "takes (0 .. 99, else the bound), keeps (0 .. 100, else the bound), sure (0 .. 99, else the bound).");
        int[] told = {-9999, -1, 0, 1, 98, 99, 100, 101, 9999};
        int[] taken = {0, 0, 0, 1, 98, 99, 99, 99, 99};
        int[] kept = {0, 0, 0, 1, 98, 99, 100, 100, 100};
        for (int i = 0; i < told.length; i++) {
            String v = Integer.toString(told[i]);
            SandInTheShoe x = Edges.rule(bare(), v, v, v);
            x.set(3, 0, 100);
            e.due("takes " + v, x.asks(0, 0, 0), taken[i]);
            e.due("keeps " + v, x.asks(0, 0, 6), kept[i]);
            e.due("sure " + v, x.asks(0, 0, 7), taken[i]);
            // The bound comes ahead of what a KIND makes of it.
            x.person(CLERK, 9);
            x.set(3, 10, 100);
            e.due("a CLERK takes " + v, x.asks(1, 0, 0), taken[i] / 2);
            e.due("a CLERK is sure " + v, x.asks(1, 0, 7), taken[i] + 9);
        }
    }

    // ---- 2: staying, shaking

    private void stays() {
        e.sentence("Terms 2", "GRAINS of each MARK in the SHOE are as many more as one TAKES (9999 at most); OUT is 1 more (9999 at most); DAY is 1 more.");
        int[] had = {0, 9899, 9900, 9901, 9998, 9999};
        for (int grains : had) {
            SandInTheShoe x = bare();
            Edges.coast(x, 2, 99, 0, 0, 0, 0, 1);
            Edges.shoe(x, 0, grains, 0, 0, 0, 0, 9999);
            e.due("stay(), of " + grains, x.stay(0, 2), Math.min(grains + 99, 9999) + 9999);
            e.due("MARK 5 stays", x.told(5, 3), 9999);
            e.due("OUT", x.told(0, 5), 1);
            e.due("DAY", x.count(1), 1);
        }
        e.sentence("Terms 2", "SHAKEN, truly: of each MARK there is what one KEEPS (all told ahead).");
        SandInTheShoe x = Edges.rule(bare(), "0", "100-shoe", "0");
        Edges.shoe(x, 0, 10, 10, 10, 10, 10, 10);
        e.due("all told by 60 in the SHOE", x.shake(0), 36);
        for (int mark = 0; mark < 6; mark++) {
            e.due("what is kept of MARK " + mark, x.told(mark, 3), 4);
        }
        e.due("the least that stays", shakenOf(0, "0"), 0);
        e.due("the most that stays", shakenOf(9999, "100"), 59994);
    }

    private static int shakenOf(int grains, String keeps) {
        SandInTheShoe x = Edges.rule(bare(), "0", keeps, "0");
        Edges.shoe(x, 0, grains, grains, grains, grains, grains, grains);
        x.shake(0);
        return x.told(0, 6);
    }

    private void likeness() {
        e.sentence("Terms 2", "LIKE (two): how far their SHOES are apart: of all MARKS by how many GRAINS, together.");
        SandInTheShoe x = bare();
        x.person(CHILD, 9);
        e.due("two empty SHOES", x.like(0, 1, 0), 0);
        Edges.shoe(x, 1, 9999, 9999, 9999, 9999, 9999, 9999);
        e.due("the most", x.like(0, 1, 0), 59994);
        e.due("the most, the other way", x.like(1, 0, 0), 59994);
        Edges.shoe(x, 0, 9999, 9998, 9999, 9999, 9999, 9999);
        e.due("one grain", x.like(0, 1, 0), 1);
        e.sentence("Terms 2", "TELLS (one, an examiner): of all MARKS that are in the SHOE of the one how SURE the examiner is (grains, shoe: of that SHOE), together.");
        Edges.shoe(x, 0, 0, 0, 0, 0, 0, 0);
        e.due("a CHILD, of an empty SHOE", x.like(0, 1, 1), 0);
        x.set(3, 0, 1);
        e.due("a CHILD, of one MARK", x.like(0, 1, 1), 1);
        Edges.shoe(x, 0, 1, 2, 3, 4, 5, 9999);
        e.due("a CHILD, of all MARKS", x.like(0, 1, 1), 6);
        x.person(PROFESSOR, 9);
        Edges.rule(x, "0", "0", "99");
        e.due("the most", x.like(0, 2, 1), 6 * 216);
    }

    // ---- 2: where one was

    private static boolean areStays(int days) {
        return days >= 0 && Integer.toString(days).matches("[0-3]{1,6}");
    }

    private void digits() {
        e.sentence("Terms 2", "STAYS (days: six digits, 0 .. 3 each, COAST 0's the highest)");
        SandInTheShoe x = null;
        for (int days = -400; days < 400000; days++) {
            // One grain of MARK 0 on each COAST: as many as the digits together.
            x = days % 400 == 0 ? oneGrain() : x;
            int all = BAD;
            if (areStays(days)) {
                all = 0;
                for (char digit : Integer.toString(days).toCharArray()) {
                    all += digit - '0';
                }
            }
            e.due("stays(0, " + days + ", 0)", x.stays(0, days, 0), all);
        }
        int[] bad = {1000000, 1111111, 3000000, 3333333, 10000000, 1000000000, 2000000000, HIGH, LOW, -111111, -333333};
        for (int days : bad) {
            e.due("stays(0, " + days + ", 0)", oneGrain().stays(0, days, 0), BAD);
        }
        SandInTheShoe y = bare();
        for (int coast = 0; coast < 6; coast++) {
            y.set(1, 11 * coast, coast + 1);
        }
        int place = 100000;
        for (int coast = 0; coast < 6; coast++) {
            e.due("three days on " + coast, y.stays(0, 3 * place, coast), 3 * (coast + 1));
            e.due("three days elsewhere", y.stays(0, 333333 - 3 * place, coast), 0);
            place = place / 10;
        }
    }

    private static SandInTheShoe oneGrain() {
        SandInTheShoe x = bare();
        for (int coast = 0; coast < 6; coast++) {
            x.set(1, 10 * coast, 1);
        }
        return x;
    }

    private void inThought() {
        e.sentence("Terms 2", "from an empty SHOE, in thought, as of DAY now: what would be in it (TAKES told as DAY is now for all).");
        SandInTheShoe x = Edges.rule(bare(), "day", "0", "0");
        Edges.shoe(x, 0, 9999, 9999, 9999, 9999, 9999, 9999);
        x.set(0, 0, 99);
        e.due("the most", x.stays(0, 333333, 5), 18 * 99);
        e.due("the most, all", x.pack(0, 0, 333333), 6 * 18 * 99);
        e.due("none", x.stays(0, 0, 5), 0);
        x.set(0, 0, 999);
        e.due("on DAY 999", x.stays(0, 333333, 5), 18 * 99);
        e.due("DAY stays", x.count(1), 999);
        e.due("OUT stays", x.told(0, 5), 0);
        e.due("the SHOE stays", x.told(0, 6), 59994);
    }

    private void fits(SandInTheShoe x, String of, int... due) {
        for (int what = 0; what < 5; what++) {
            e.due("fit(0, 0, " + what + ") " + of, x.fit(0, 0, what), due[what]);
        }
    }

    private void fit() {
        e.sentence("Terms 2", "FIT: all STAYS by which just that would be in the SHOE that a SHEET tells (six numbers).");
        SandInTheShoe x = oneGrain();
        Edges.row(x, 0, 2, 18, 0, 0, 0, 0, 0);
        fits(x, "of the most", 1, 333333, 18, 63, 63);
        x.cell(0, 0, 19);
        fits(x, "of more than the most", 0, NONE, NONE, 0, 0);
        x.cell(0, 0, -1);
        fits(x, "of less than nothing", 0, NONE, NONE, 0, 0);
        x.cell(0, 0, LOW);
        fits(x, "of the least int", 0, NONE, NONE, 0, 0);
        x.cell(0, 0, 17);
        fits(x, "of one day less than the most", 6, 233333, 17, 63, 63);
        x.cell(0, 5, 1);
        fits(x, "of one grain beside", 0, NONE, NONE, 0, 0);
        e.sentence("Terms 2", "How many FIT (none of any DAYS, too, for an empty SHOE)");
        Edges.row(x, 0, 2, 0, 0, 0, 0, 0, 0);
        fits(x, "of an empty SHOE", 1, 0, 0, 0, 0);
        x.set(1, 30, 0);
        fits(x, "of an empty SHOE, one COAST bare", 4, 0, 0, 0, 8);
        SandInTheShoe y = bare();
        y.sheet(0, 0, 6);
        fits(y, "of an empty SHOE, all bare", 4096, 0, 0, 0, 63);
        e.sentence("Terms 2", "of those of fewest DAYS the least as a number: the FIRST; its DAYS");
        Edges.row(x, 0, 2, 4, 0, 0, 0, 0, 0);
        // 4 days on five COASTS: 3 on one and 1 on another, and so on; the least is 13, with none on the bare one.
        e.due("the least of 4 days", x.fit(0, 0, 1), 13);
        e.due("its DAYS", x.fit(0, 0, 2), 4);
        x.set(1, 0, 4);
        e.due("one day is fewer", x.fit(0, 0, 1), 100000);
        e.due("its DAYS", x.fit(0, 0, 2), 1);
        e.sentence("Terms 2", "MUST: COASTS (bits) that are in all of them; MAY: COASTS (bits) that are in any.");
        mustAndMay();
        e.sentence("Terms 2", "SHARE (a COAST): by how many of all that FIT one was on it, of all that FIT.");
        for (int coast = 0; coast < 6; coast++) {
            e.due("share of a bare COAST", y.share(0, 0, coast, 0), 3);
            e.due("share of a bare COAST, below", y.share(0, 0, coast, 1), 4);
        }
        Edges.row(x, 0, 2, 0, 0, 0, 0, 0, 0);
        e.due("share of the bare one", x.share(0, 0, 3, 0), 3);
        e.due("share of another", x.share(0, 0, 5, 0), 0);
        e.due("share of another, below", x.share(0, 0, 5, 1), 1);
    }

    private void mustAndMay() {
        SandInTheShoe x = bare();
        // COASTS 0 and 5 alike, COAST 2 alone in MARK 1, COAST 3 never, the others bare.
        x.set(1, 0, 1);
        x.set(1, 50, 1);
        x.set(1, 21, 1);
        x.set(1, 35, 1);
        Edges.row(x, 0, 2, 1, 2, 0, 0, 0, 0);
        e.due("MUST", x.fit(0, 0, 3), 4);
        e.due("MAY", x.fit(0, 0, 4), 1 + 2 + 4 + 16 + 32);
        x.cell(0, 0, 4);
        e.due("MUST, 4 days on two", x.fit(0, 0, 3), 1 + 4 + 32);
        x.cell(0, 0, 7);
        e.due("MUST, none FIT", x.fit(0, 0, 3), 0);
        e.due("MAY, none FIT", x.fit(0, 0, 4), 0);
    }

    private void go() {
        e.sentence("Terms 2", "GO (one, another, n DAYS 0 .. 3): of all ways to STAY n DAYS on COASTS (the lesser COAST never behind a greater one)");
        for (int first = 0; first < 6; first++) {
            for (int second = first; second < 6; second++) {
                for (int third = second; third < 6; third++) {
                    SandInTheShoe x = goers();
                    int[] coasts = {first, second, third};
                    for (int coast : coasts) {
                        x.set(3, 10 + coast, x.told(10 + coast, 3) + 1);
                    }
                    int way = (first + 1) * 100 + (second + 1) * 10 + third + 1;
                    e.due("go() to the SHOE of " + way, x.go(0, 1, 3, 0), way);
                    e.due("go() to the SHOE of " + way + ", apart", x.go(0, 1, 3, 1), 0);
                }
            }
        }
        e.sentence("Terms 2", "of like ones the first; how far apart then.");
        SandInTheShoe y = bare();
        y.person(PERSON, 0);
        int[] first = {0, 1, 11, 111};
        for (int n = 0; n < 4; n++) {
            e.due("go() where all are like, " + n, y.go(0, 1, n, 0), first[n]);
            e.due("go() where all are like, " + n + ", apart", y.go(0, 1, n, 1), 0);
        }
        e.sentence("Terms 2", "As digits: 1 more than each COAST, the first the highest.");
        y.set(1, 0, 1);
        y.set(1, 51, 1);
        Edges.shoe(y, 1, 1, 1);
        e.due("the first and the last COAST", y.go(0, 1, 2, 0), 16);
        Edges.shoe(y, 1, 0, 3);
        e.due("the last COAST, three days", y.go(0, 1, 3, 0), 666);
        Edges.shoe(y, 1, 9999, 9999, 9999, 9999, 9999, 9999);
        e.due("the most apart", y.go(0, 1, 0, 1), 59994);
        e.due("a day less", y.go(0, 1, 1, 1), 59993);
    }

    /** Two, and on each COAST one grain of its own MARK. */
    private static SandInTheShoe goers() {
        SandInTheShoe x = bare();
        x.person(PERSON, 0);
        for (int coast = 0; coast < 6; coast++) {
            x.set(1, 11 * coast, 1);
        }
        return x;
    }

    private void oddAndPoor() {
        e.sentence("Terms 2", "ODD (one): whose SHOE is least LIKE (most apart), of like ones the first; NONE: nobody else.");
        SandInTheShoe x = bare();
        e.due("nobody else", x.odd(0, 0), NONE);
        e.due("nobody else, apart", x.odd(0, 1), NONE);
        for (int one = 1; one < 5; one++) {
            x.person(one, 0);
            e.due("all alike", x.odd(0, 0), 1);
            e.due("all alike, apart", x.odd(0, 1), 0);
            e.due("all alike, of the last", x.odd(one, 0), 0);
        }
        x.set(3, 40, 1);
        e.due("the last", x.odd(0, 0), 4);
        e.due("the last, apart", x.odd(0, 1), 1);
        x.set(3, 25, 1);
        e.due("of like ones the first", x.odd(0, 0), 2);
        x.set(3, 15, 2);
        e.due("the first", x.odd(0, 0), 1);
        Edges.shoe(x, 3, 9999, 9999, 9999, 9999, 9999, 9999);
        e.due("the most apart", x.odd(0, 1), 59994);
        e.sentence("Terms 2", "POOR: the COAST that has fewest GRAINS, together; of like ones the first.");
        SandInTheShoe y = bare();
        e.due("all bare", y.odd(0, 2), 0);
        for (int coast = 0; coast < 5; coast++) {
            y.set(1, 10 * coast + coast, 1);
            e.due("the first that is bare", y.odd(0, 2), coast + 1);
        }
        y.set(1, 55, 1);
        e.due("all alike", y.odd(0, 2), 0);
        y.set(1, 0, 2);
        y.set(1, 50, 99);
        e.due("the second", y.odd(0, 2), 1);
        e.sentence("Terms 2", "MEAN (one, a MARK): GRAINS of it in the SHOE, of all in it.");
        Edges.shoe(y, 0, 0, 0, 0, 0, 0, 9999);
        e.due("all of it", y.mean(0, 5, 0), 1);
        e.due("none of it", y.mean(0, 0, 0), 0);
        y.set(3, 5, 0);
        e.due("an empty SHOE", y.mean(0, 5, 0), NO);
    }

    // ---- 2: what was told of taking

    private void told() {
        e.sentence("Terms 2", "TOLD: a SHEET tells what one would TAKE of MARK 0, 1, .. (6 at most) on a COAST: the first that is otherwise; NONE");
        SandInTheShoe x = bare();
        Edges.coast(x, 0, 1, 2, 3, 4, 5, 6);
        for (int size = 0; size <= 6; size++) {
            x.sheet(0, 2, size);
            for (int i = 0; i < size; i++) {
                x.cell(0, i, i + 1);
            }
            e.due("tells() of " + size, x.tells(0, 0, 0, 0), NONE);
            for (int i = size - 1; i >= 0; i--) {
                x.cell(0, i, i + 2);
                e.due("tells(), the first otherwise", x.tells(0, 0, 0, 0), i);
            }
        }
        x.sheet(0, 2, 7);
        e.due("tells() of 7", x.tells(0, 0, 1, 0), BAD);
        Edges.row(x, 0, 2, 256 + 1);
        e.due("an int is no byte", x.tells(0, 0, 0, 0), 0);
        e.sentence("Terms 2", "KINDS (bits 0 .. 5), NUMBERS (bits 0 .. 9), DAYS (of 0 .. 99: how many, the least), COASTS (bits) of which it would be so, TEXTS (bits), were they THE RULE, by which all would be so.");
        toldBack();
    }

    private void toldBack() {
        // MARK 1 and 2 of 10: a CHILD takes 11 of MARK 1, a SAILOR twice, a CLERK half.
        SandInTheShoe x = bare();
        for (int coast = 0; coast < 6; coast++) {
            x.set(1, 10 * coast + 1, 10);
        }
        int[] told = {10, 20, 5, 11, 99};
        int[] kinds = {1, 2 + 8, 4 + 16, 32, 0};
        for (int i = 0; i < told.length; i++) {
            Edges.row(x, 0, 0, 0, told[i]);
            e.due("KINDS that take " + told[i], x.tells(0, 0, 0, 1), kinds[i]);
        }
        Edges.rule(x, "number", "0", "0");
        for (int number = 0; number < 10; number++) {
            Edges.row(x, 0, 0, number, number, number, number, number, number);
            e.due("NUMBERS that take " + number, x.tells(0, 0, 0, 2), 1 << number);
        }
        Edges.row(x, 0, 0, 10);
        e.due("NUMBERS: none is 10", x.tells(0, 0, 0, 2), 0);
        Edges.rule(x, "coast+1", "0", "0");
        for (int coast = 0; coast < 6; coast++) {
            Edges.row(x, 0, 1, coast + 1);
            e.due("COASTS that bring " + (coast + 1), x.tells(0, 0, 0, 5), 1 << coast);
        }
        Edges.row(x, 0, 1, 0);
        e.due("COASTS: none brings 0", x.tells(0, 0, 0, 5), 0);
        toldDays();
        toldTexts();
    }

    private void toldDays() {
        SandInTheShoe x = Edges.rule(bare(), "day", "0", "0");
        int[] days = {0, 1, 50, 98};
        for (int day : days) {
            Edges.row(x, 0, 1, day);
            e.due("DAYS that bring " + day, x.tells(0, 0, 0, 3), 1);
            e.due("the least", x.tells(0, 0, 0, 4), day);
        }
        Edges.row(x, 0, 1, 99);
        // DAY 100, too, would bring 99 by the bound, but is not asked.
        e.due("DAYS that bring 99", x.tells(0, 0, 0, 3), 1);
        e.due("the least", x.tells(0, 0, 0, 4), 99);
        Edges.row(x, 0, 1, 100);
        e.due("DAYS that bring 100", x.tells(0, 0, 0, 3), 0);
        e.due("the least", x.tells(0, 0, 0, 4), NONE);
        Edges.rule(x, "7*(day=100)", "0", "0");
        Edges.row(x, 0, 1, 7);
        x.set(0, 0, 100);
        e.due("so it is on DAY 100", x.tells(0, 0, 0, 0), NONE);
        e.due("DAY 100 is not asked", x.tells(0, 0, 0, 3), 0);
        e.due("DAY 100 is not the least", x.tells(0, 0, 0, 4), NONE);
        Edges.row(x, 0, 1, 0);
        e.due("the others are", x.tells(0, 0, 0, 3), 100);
        Edges.rule(x, "day", "0", "0");
        x.set(0, 0, 999);
        e.due("DAYS, none told", bareTelling(x, 3), 100);
        e.due("the least, none told", bareTelling(x, 4), 0);
        e.due("DAY stays", x.count(1), 999);
    }

    private static int bareTelling(SandInTheShoe x, int what) {
        x.sheet(0, 0, 0);
        return x.tells(0, 0, 0, what);
    }

    private void toldTexts() {
        SandInTheShoe x = bare();
        for (int text = 1; text < 6; text++) {
            e.due("TEXTS, none told", bareTelling(x, 6), (1 << text) - 1);
            Edges.read(x, "takes" + text + ";keeps0;sure0;");
        }
        e.due("TEXTS, none told", bareTelling(x, 6), 63);
        for (int v = 0; v < 7; v++) {
            Edges.row(x, 0, 2, v, v, v, v, v, v);
            e.due("TEXTS that bring " + v, x.tells(0, 0, 0, 6), v < 6 ? 1 << v : 0);
            e.due("THE RULE stays", x.count(5), 0);
        }
    }

    private void drawn() {
        e.sentence("Terms 2", "DRAWN by a SEED: n DAYS (0 .. 40), each on COAST (z >>> 9) % 6, z being z * 1103515245 + 12345 (an int; SEED at first) anew for each");
        int[] seeds = {0, 1, -1, HIGH, LOW, 12345, -987654321};
        for (int seed : seeds) {
            SandInTheShoe x = bare();
            for (int coast = 0; coast < 6; coast++) {
                x.set(1, 11 * coast, coast + 1);
            }
            // Told by longs: the lowest 32 bits, without a sign, shifted.
            long z = seed & 0xffffffffL;
            int all = 0;
            for (int n = 0; n <= 40; n++) {
                e.due("drawn(" + seed + ", 0, " + n + ")", x.drawn(seed, 0, n), all);
                z = z * 1103515245L + 12345L & 0xffffffffL;
                all += (int) (z / 512 % 6) + 1;
            }
            e.due("drawn(" + seed + ", 0, 41)", x.drawn(seed, 0, 41), BAD);
            e.due("drawn(" + seed + ", 0, -1)", x.drawn(seed, 0, -1), BAD);
        }
        SandInTheShoe y = bare();
        for (int coast = 0; coast < 6; coast++) {
            Edges.coast(y, coast, 99, 99, 99, 99, 99, 99);
        }
        Edges.shoe(y, 0, 9999, 9998, 9900, 9899, 9801, 0);
        e.due("one day", y.drawn(3, 0, 1), 9999 + 9999 + 9999 + 9998 + 9900 + 99);
        e.due("40 days", y.drawn(3, 0, 40), 5 * 9999 + 40 * 99);
        // The days that are drawn follow one another, the first of them DAY as it is now.
        SandInTheShoe z = Edges.rule(bare(), "day-990", "0", "0");
        z.set(0, 0, 990);
        for (int n = 0; n <= 10; n++) {
            e.due(n + " days from DAY 990 on", z.drawn(3, 0, n), 6 * (n * (n - 1) / 2));
        }
        e.due("DAY stays", z.count(1), 990);
        z.set(0, 0, 999);
        e.due("a day that is DAY 999", z.drawn(3, 0, 1), 54);
        e.due("five in each of 20 seeds", z.chance(3, 20, 0, 54, 0), 1);
    }

    private void chance() {
        e.sentence("Terms 2", "IN m seeds (1 .. 20), SEED and each 1 more (an int), 5 DAYS: of these those by which that is k (0 .. 99999) or more.");
        int[] seeds = {0, 100, HIGH, HIGH - 1, HIGH - 19, -1, -20, LOW};
        for (int seed : seeds) {
            SandInTheShoe x = bare();
            for (int coast = 0; coast < 6; coast++) {
                x.set(1, 11 * coast, coast + 1);
            }
            for (int k = 5; k <= 31; k++) {
                int above = 0;
                for (int i = 0; i < 20; i++) {
                    above += fiveDays(seed + i) >= k ? 1 : 0;
                }
                int shared = 1;
                for (int d = 2; d <= 20; d++) {
                    shared = above % d == 0 && 20 % d == 0 ? d : shared;
                }
                e.due("chance(" + seed + ", 20, 0, " + k + ", 0)", x.chance(seed, 20, 0, k, 0), above / shared);
                e.due("chance(" + seed + ", 20, 0, " + k + ", 1)", x.chance(seed, 20, 0, k, 1), 20 / shared);
            }
            for (int m = 1; m <= 20; m++) {
                e.due("chance(" + seed + ", " + m + ", 0, 5, 1)", x.chance(seed, m, 0, 5, 1), 1);
            }
        }
    }

    private static int fiveDays(int seed) {
        long z = seed & 0xffffffffL;
        int all = 0;
        for (int i = 0; i < 5; i++) {
            z = z * 1103515245L + 12345L & 0xffffffffL;
            all += (int) (z / 512 % 6) + 1;
        }
        return all;
    }

    private void image() {
        e.sentence("Terms 2", "AN IMAGE keeps COASTS, DAY, NUMBERS, SHOES, OUT, THE RULE (PEOPLE that came since go).");
        SandInTheShoe x = bare();
        Edges.read(x, "takes1;keeps1;sure1;");
        x.person(CLERK, 1);
        x.image();
        for (int place = 0; place < 36; place++) {
            x.set(1, place / 6 * 10 + place % 6, 99);
        }
        Edges.shoe(x, 0, 9999, 9999, 9999, 9999, 9999, 9999);
        x.set(2, 1, 9);
        x.stay(1, 5);
        x.set(0, 0, 999);
        x.force(1);
        x.person(CHILD, 9);
        x.person(CHILD, 9);
        x.person(CHILD, 9);
        Edges.shoe(x, 4, 9999, 9999, 9999, 9999, 9999, 9999);
        e.due("back()", x.back(), 2);
        for (int coast = 0; coast < 6; coast++) {
            e.due("COAST " + coast, x.told(coast, 7), 0);
        }
        e.due("DAY", x.count(1), 0);
        e.due("NUMBER", x.told(1, 2), 1);
        e.due("SHOES", x.count(2), 0);
        e.due("OUT", x.told(1, 5), 0);
        e.due("THE RULE", x.count(5), 0);
        e.due("TEXTS stay", x.count(3), 2);
        for (int one = 2; one < 5; one++) {
            e.due("nobody of number " + one, x.told(one, 4), BAD);
            e.due("one comes", x.person(one, one), one);
            e.due("with an empty SHOE", x.told(one, 6), 0);
        }
    }

    // ---- 3: sheets

    private void sheets() {
        e.sentence("Terms 3", "SHEETS 0 .. 3 are rows of numbers, or missing (as all are at first): of sort 0 bytes, 1 shorts, 2 ints.");
        SandInTheShoe x = bare();
        for (int sheet = -1; sheet <= 4; sheet++) {
            boolean is = sheet >= 0 && sheet < 4;
            e.due("cell(" + sheet + ", 0, 0) at first", x.cell(sheet, 0, 0), is ? NOTHING : BAD);
            for (int sort = 0; sort < 3; sort++) {
                e.due("sheet(" + sheet + ", " + sort + ", 1)", x.sheet(sheet, sort, 1), is ? 1 : BAD);
                e.due("cell(" + sheet + ", 0, 0)", x.cell(sheet, 0, 0), is ? 1 : BAD);
                for (int asked = 0; asked < 3; asked++) {
                    e.due("its sort", x.people(sheet, asked, 0, 0), !is ? BAD : asked == sort ? 0 : UNLIKE);
                }
            }
        }
        // Bytes and shorts as Java's: what is above their half is below 0.
        x.set(1, 0, 99);
        Edges.row(x, 0, 0, 127);
        e.due("127 and 99", x.tells(0, 0, 0, 0), 0);
        Edges.rule(x, "64*(mark=0)", "0", "0");
        Edges.row(x, 0, 0, 64 * 2, 0, 0, 0, 0, 0);
        e.due("a byte 128 is none of 128 grains", x.fit(0, 0, 0), 0);
        Edges.row(x, 0, 1, 64 * 2, 0, 0, 0, 0, 0);
        e.due("a short 128 is", x.fit(0, 0, 2), 2);
    }

    public static void main(String[] args) throws IOException {
        TermsEdgeTests t = new TermsEdgeTests(new Edges(args));
        t.calls();
        t.coasts();
        t.day();
        t.people();
        t.shoes();
        t.constants();
        t.order();
        t.takes();
        t.keeps();
        t.sure();
        t.tape();
        t.bytes();
        t.tokens();
        t.texts();
        t.faults();
        t.grammar();
        t.open();
        t.values();
        t.sixTexts();
        t.names();
        t.bounds();
        t.stays();
        t.likeness();
        t.digits();
        t.inThought();
        t.fit();
        t.go();
        t.oddAndPoor();
        t.told();
        t.drawn();
        t.chance();
        t.image();
        t.sheets();
        t.e.ends("TermsEdgeTests");
    }
}
