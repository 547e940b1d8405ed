/** For each promise of the document calls with answers worked out by hand from its words. */
public final class PromiseTests {
    private static final int BAD = -2, STATE = -3, FULL = -4, NOTHING = -11, OUTSIDE = -12, UNLIKE = -13, BELOW = -14;
    private static final long NO = -4611686018427387904L;
    private static final int LOW = Integer.MIN_VALUE, HIGH = Integer.MAX_VALUE;

    private static int checks = 0;
    private static int wrong = 0;

    private static void due(int promise, String call, long got, long want) {
        checks++;
        if (got != want) {
            wrong++;
            System.out.println("promise " + promise + ": " + call + " answered " + got + ", due is " + want);
        }
    }

    private static void feed(SandInTheShoe x, String tape) {
        for (int i = 0; i < tape.length(); i++) {
            x.feed(tape.charAt(i));
        }
    }

    private static int read(String tape) {
        SandInTheShoe x = new SandInTheShoe();
        feed(x, tape);
        return x.text();
    }

    private static int read(SandInTheShoe x, String tape) {
        feed(x, tape);
        return x.text();
    }

    /** What a takes part tells of 7 grains, mark 2, number 3, day 5, coast 4. */
    private static int takes(String expression) {
        SandInTheShoe x = new SandInTheShoe();
        x.person(0, 3);
        x.set(0, 0, 5);
        x.set(1, 42, 7);
        x.set(3, 1, 50);
        x.force(read(x, "takes " + expression + ";keeps 0;sure 0;"));
        return x.asks(0, 2, 4);
    }

    /** Six coasts: grains of mark m on coast c are as the row tells at 6 * c + m. */
    private static SandInTheShoe withCoasts(int... grains) {
        SandInTheShoe x = new SandInTheShoe();
        for (int i = 0; i < grains.length; i++) {
            x.set(1, i / 6 * 10 + i % 6, grains[i]);
        }
        return x;
    }

    private static void row(SandInTheShoe x, int sheet, int sort, int... numbers) {
        x.sheet(sheet, sort, numbers.length);
        for (int i = 0; i < numbers.length; i++) {
            x.cell(sheet, i, numbers[i]);
        }
    }

    private static void shoe(SandInTheShoe x, int one, int... grains) {
        for (int m = 0; m < grains.length; m++) {
            x.set(3, 10 * one + m, grains[m]);
        }
    }

    private static void promise1() {
        SandInTheShoe x = new SandInTheShoe();
        int[] counts = {0, 0, 0, 1, 0, 0};
        for (int what = 0; what < 6; what++) {
            due(1, "count " + what, x.count(what), counts[what]);
        }
        for (int coast = 0; coast < 6; coast++) {
            due(1, "coast " + coast, x.told(coast, 7), 0);
        }
        for (int sheet = 0; sheet < 4; sheet++) {
            due(1, "sheet " + sheet, x.cell(sheet, 0, 0), NOTHING);
        }
        due(1, "one", x.told(0, 6), BAD);
        due(1, "back", x.back(), STATE);
        due(1, "NONE", SandInTheShoe.NONE, -1);
        due(1, "BAD", SandInTheShoe.BAD, BAD);
        due(1, "STATE", SandInTheShoe.STATE, STATE);
        due(1, "FULL", SandInTheShoe.FULL, FULL);
        due(1, "NO", SandInTheShoe.NO, NO);
    }

    private static void promise2() {
        SandInTheShoe x = new SandInTheShoe();
        x.person(0, 4);
        x.person(0, 9);
        due(2, "day", x.set(0, LOW, 999), 0);
        due(2, "day again", x.set(0, HIGH, 0), 999);
        due(2, "day 1000", x.set(0, 0, 1000), BAD);
        due(2, "day -1", x.set(0, 0, -1), BAD);
        due(2, "grains", x.set(1, 55, 99), 0);
        due(2, "grains again", x.set(1, 55, 1), 99);
        due(2, "grains 100", x.set(1, 55, 100), BAD);
        due(2, "grains -1", x.set(1, 55, -1), BAD);
        due(2, "grains of coast 6", x.set(1, 60, 0), BAD);
        due(2, "grains of mark 6", x.set(1, 6, 0), BAD);
        due(2, "grains of -1", x.set(1, -1, 0), BAD);
        due(2, "grains of -10", x.set(1, -10, 0), BAD);
        due(2, "grains kept", x.told(55, 1), 1);
        due(2, "number", x.set(2, 1, 0), 9);
        due(2, "number 9", x.set(2, 1, 9), 0);
        due(2, "number 10", x.set(2, 1, 10), BAD);
        due(2, "number -1", x.set(2, 1, -1), BAD);
        due(2, "number of 2", x.set(2, 2, 0), BAD);
        due(2, "number of -1", x.set(2, -1, 0), BAD);
        due(2, "number of the other", x.told(0, 2), 4);
        due(2, "shoe", x.set(3, 15, 9999), 0);
        due(2, "shoe again", x.set(3, 15, 5), 9999);
        due(2, "shoe 10000", x.set(3, 15, 10000), BAD);
        due(2, "shoe -1", x.set(3, 15, -1), BAD);
        due(2, "shoe of 2", x.set(3, 20, 0), BAD);
        due(2, "shoe of mark 6", x.set(3, 16, 0), BAD);
        due(2, "shoe of -1", x.set(3, -1, 0), BAD);
        due(2, "shoe kept", x.told(15, 3), 5);
        due(2, "what 4", x.set(4, 0, 0), BAD);
        due(2, "what -1", x.set(-1, 0, 0), BAD);
    }

    private static void promise3() {
        SandInTheShoe x = new SandInTheShoe();
        due(3, "kind 6", x.person(6, 0), BAD);
        due(3, "kind -1", x.person(-1, 0), BAD);
        due(3, "number 10", x.person(0, 10), BAD);
        due(3, "number -1", x.person(0, -1), BAD);
        for (int i = 0; i < 5; i++) {
            due(3, "person " + i, x.person(5 - i, 9 - i), i);
            due(3, "kind of " + i, x.told(i, 4), 5 - i);
            due(3, "number of " + i, x.told(i, 2), 9 - i);
        }
        due(3, "a sixth", x.person(0, 0), FULL);
        due(3, "a sixth of none such", x.person(6, 0), BAD);
        due(3, "people", x.count(0), 5);
    }

    private static void promise4() {
        SandInTheShoe x = withCoasts(1, 2, 3, 4, 5, 6, 9);
        x.person(2, 7);
        shoe(x, 0, 1, 0, 3);
        x.set(0, 0, 12);
        due(4, "day", x.told(LOW, 0), 12);
        due(4, "grains", x.told(5, 1), 6);
        due(4, "grains of coast 1", x.told(10, 1), 9);
        due(4, "number", x.told(0, 2), 7);
        due(4, "shoe", x.told(2, 3), 3);
        due(4, "kind", x.told(0, 4), 2);
        due(4, "out", x.told(0, 5), 0);
        due(4, "all in the shoe", x.told(0, 6), 4);
        due(4, "all of a coast", x.told(0, 7), 21);
        for (int what = 1; what < 8; what++) {
            due(4, "of -1, what " + what, x.told(-1, what), BAD);
            due(4, "of 66, what " + what, x.told(66, what), BAD);
            due(4, "of the most, what " + what, x.told(HIGH, what), BAD);
            due(4, "of the least, what " + what, x.told(LOW, what), BAD);
        }
        due(4, "what 8", x.told(0, 8), BAD);
        due(4, "what -1", x.told(0, -1), BAD);
    }

    private static void promise5() {
        // takes 50 of mark 3 on coast 1, 30 keeps of 100 hundredths, sure as many as grains
        int[] taken = {50, 99, 25, 99, 25, 53};
        int[] kept = {75, 75, 150, 37, 140, 0};
        int[] sure = {99, 99, 99 + 9, 0, 2 * (99 + 9), 1};
        for (int kind = 0; kind < 6; kind++) {
            SandInTheShoe x = new SandInTheShoe();
            x.person(kind, 9);
            x.set(1, 13, 50);
            x.set(3, 3, 150);
            due(5, "takes of kind " + kind, x.asks(0, 3, 1), taken[kind]);
            due(5, "keeps of kind " + kind, x.asks(0, 3, 6), kept[kind]);
            due(5, "sure of kind " + kind, x.asks(0, 3, 7), sure[kind]);
        }
        SandInTheShoe x = new SandInTheShoe();
        x.person(3, 8);
        x.person(4, 8);
        x.person(2, 8);
        x.set(1, 2, 20);
        x.set(1, 5, 21);
        x.set(3, 12, 9);
        due(5, "captain of mark 8 modulo 6", x.asks(0, 2, 0), 48);
        due(5, "captain of another", x.asks(0, 5, 0), 42);
        due(5, "professor of mark 5", x.asks(1, 5, 0), 0);
        due(5, "professor of mark 2", x.asks(1, 2, 0), 10);
        due(5, "clerk, cut", x.asks(2, 5, 0), 10);
        due(5, "professor keeps not below 0", x.asks(1, 2, 6), 0);
        due(5, "none such", x.asks(3, 0, 0), BAD);
        due(5, "one -1", x.asks(-1, 0, 0), BAD);
        due(5, "mark 6", x.asks(0, 6, 0), BAD);
        due(5, "mark -1", x.asks(0, -1, 0), BAD);
        due(5, "what 8", x.asks(0, 0, 8), BAD);
        due(5, "what -1", x.asks(0, 0, -1), BAD);
        names();
    }

    /** What the names tell in each part. */
    private static void names() {
        SandInTheShoe x = new SandInTheShoe();
        x.person(0, 3);
        x.set(0, 0, 8);
        x.set(1, 42, 7);
        shoe(x, 0, 4, 0, 10);
        x.force(read(x, "takes grains + shoe * 50 + coast; keeps grains + shoe + coast * 50; sure grains + shoe + coast * 50;"));
        due(5, "takes: grains of the coast, no shoe, the coast", x.asks(0, 2, 4), 11);
        due(5, "keeps: grains of the shoe, all of it, no coast", x.asks(0, 2, 6), 2);
        due(5, "sure: grains of the shoe, all of it, no coast", x.asks(0, 2, 7), 24);
        x.force(read(x, "takes mark + number * 10 + day; keeps mark + number * 20 + day; sure mark + number * 5 + day;"));
        due(5, "takes: mark, number, day", x.asks(0, 2, 4), 40);
        due(5, "keeps: mark, number, day", x.asks(0, 2, 6), 7);
        due(5, "sure: mark, number, day", x.asks(0, 2, 7), 25);
        x.force(read(x, "takes 100; keeps 101; sure 100;"));
        due(5, "takes, the upper bound", x.asks(0, 2, 0), 99);
        due(5, "keeps, the upper bound", x.asks(0, 2, 6), 10);
        due(5, "sure, the upper bound", x.asks(0, 2, 7), 99);
        x.person(2, 0);
        due(5, "half of the bound", x.asks(1, 2, 0), 49);
        x.set(3, 2, 200);
        due(5, "keeps all, and no more", x.asks(0, 2, 6), 200);
        x.force(read(x, "takes -1; keeps -1; sure -1;"));
        due(5, "takes, the lower bound", x.asks(0, 2, 0), 0);
        due(5, "keeps, the lower bound", x.asks(0, 2, 6), 0);
        due(5, "sure, the lower bound", x.asks(0, 2, 7), 0);
    }

    private static void promise6() {
        SandInTheShoe x = new SandInTheShoe();
        due(6, "byte 256", x.feed(256), BAD);
        due(6, "byte -1", x.feed(-1), BAD);
        for (int i = 1; i <= 160; i++) {
            due(6, "byte " + i, x.feed(i % 2 * 255), i);
        }
        due(6, "one too many", x.feed(0), FULL);
        due(6, "one too many, and none such", x.feed(256), BAD);
        due(6, "bytes", x.count(4), 160);
    }

    private static void promise7() {
        SandInTheShoe x = new SandInTheShoe();
        for (int i = 1; i < 6; i++) {
            due(7, "a fault between", read(x, "sure"), -100);
            due(7, "text " + i, read(x, " takes 1;\nkeeps 2 ; sure 3;\n "), i);
            due(7, "an empty tape", x.count(4), 0);
        }
        x.feed('A');
        due(7, "no room", x.text(), FULL);
        due(7, "the tape stays", x.count(4), 1);
        due(7, "texts", x.count(3), 6);
        faults();
        openFaults();
        values();
        due(7, "160 bytes", read("takes " + "1+".repeat(67) + "1;keeps 1;sure 1;  "), 1);
    }

    private static void fault(String tape, int place) {
        due(7, "text of «" + tape + "»", read(tape), -100 - place);
    }

    private static void faults() {
        fault("", 0);
        fault("  ", 2);
        fault("takes", 5);
        fault("takes ", 6);
        fault("takes 1", 7);
        fault("takes 1;", 8);
        fault("takes 1;keeps 2;sure 3", 22);
        fault("takes 1;keeps 2;sure 3; ;", 24);
        fault("takes 1;keeps 2;sure 3; takes", 24);
        fault("keeps 1;", 0);
        fault("takes 1;sure 1;", 8);
        fault("takes 1 2;", 8);
        fault("takes1mark;", 6);
        fault("takes 12345;", 6);
        fault("takes 1+00001;", 8);
        fault("takes grain;", 6);
        fault("takes grainss;", 6);
        fault("takesmark;", 0);
        fault("takes A;", 6);
        fault("takes 1\t;", 7);
        fault("takes 1,2;", 7);
        fault("takes 1/2;", 7);
        fault("takes 1:2;", 7);
        fault("takes 1>2;", 7);
        fault("takes " + (char) 233 + ";", 6);
        fault("takes " + (char) 0 + ";", 6);
        fault("takes ;", 6);
        fault("takes ();", 7);
        fault("takes (1;", 8);
        fault("takes 1);", 7);
        fault("takes +1;", 6);
        fault("takes 1+;", 8);
        fault("takes 1++2;", 8);
        fault("takes 1 not 2;", 8);
        fault("takes 1+not 2;", 8);
        fault("takes - not 2;", 8);
        fault("takes 1<2<3;", 9);
        fault("takes 1<2=3;", 9);
        fault("takes 1=not 1;", 8);
        fault("takes or 1;", 6);
        fault("takes 1 and;", 11);
        fault("takes 1 or keeps 1;", 11);
        fault("takes 1;keeps 1;sure 1 + B; C", 25);
    }

    private static final String REST = ";keeps 1;sure 1;";

    private static void openFaults() {
        due(7, "five (", read("takes (((((1)))))" + REST), 1);
        fault("takes ((((((1))))))" + REST, 11);
        due(7, "five not", read("takes not not not not not 1" + REST), 1);
        fault("takes not not not not not not 1" + REST, 26);
        due(7, "five -", read("takes -----1" + REST), 1);
        fault("takes ------1" + REST, 11);
        due(7, "five of all", read("takes not -(-(1" + ")" + "*2))" + REST), -100 - 19);
        due(7, "five of all, closed", read("takes not -(-(1*2))" + REST), 1);
        fault("takes not -(-(-1*2))", 14);
        fault("takes not -((((1*2))))", 14);
        fault("takes (((((-1)))))", 11);
        fault("takes (((((not 1)))))", 11);
        due(7, "- between is not open", read("takes (((((1-1-1)))))" + REST), 1);
        due(7, "what has ended is not open", read("takes -(1)-(2)*-3+(4)+(5)+-(6)-(7) and not 1 and not 1" + REST), 1);
        due(7, "- ends with its one", read("takes -1*((((( 1 )))))" + REST), 1);
        fault("takes not 1 < ((((( 1 )))))" + REST, 18);
        due(7, "not ends ahead of and", read("takes not 1 and ((((( 1 )))))" + REST), 1);
    }

    private static void values() {
        String[] expressions = {
            "1+2*3", "7-2-1", "2*3-4*1", "-2+5", "2*-3+10", "--4", "(1+2)*3", "not 0", "not 5", "not not 5",
            "0 or 7", "7", "7 and 0", "7 and 2", "0 or 0", "1 or 0 and 0", "not 1 or 1", "not 0 and 0",
            "1<2", "2<1", "1<1", "2=2", "2=3", "1+1=2", "not 1<0", "-1<0", "(5 and 3)+4", "3 or 4 = 9",
            "grains", "mark", "number", "day", "coast", "shoe", "0099", "9999", "-5",
            "10-(3-(2-1))", "0-1", "1<2 and 2<3 or 0", "9999*9999*43-417*9999-3117", "9999*9999*30<0"
        };
        int[] due = {
            7, 4, 2, 3, 4, 4, 9, 1, 0, 1,
            1, 7, 0, 1, 0, 1, 1, 0,
            1, 0, 0, 1, 0, 1, 1, 1, 5, 1,
            7, 2, 3, 5, 4, 0, 99, 99, 0,
            8, 0, 1, 47, 1
        };
        // 9999 * 9999 * 43 is 4172747 above 2 to the 32nd; 9999 * 9999 * 30 wraps below 0.
        for (int i = 0; i < expressions.length; i++) {
            due(7, expressions[i], takes(expressions[i]), due[i]);
        }
    }

    private static void promise8() {
        SandInTheShoe x = new SandInTheShoe();
        x.person(0, 0);
        due(8, "text 1, not there", x.force(1), BAD);
        due(8, "text -1", x.force(-1), BAD);
        read(x, "takes 5;keeps 0;sure 0;");
        due(8, "not the rule yet", x.asks(0, 0, 0), 0);
        due(8, "text 1", x.force(1), 0);
        due(8, "it is the rule", x.asks(0, 0, 0), 5);
        due(8, "text 1 again", x.force(1), 1);
        due(8, "text 2, not there", x.force(2), BAD);
        due(8, "the rule", x.count(5), 1);
        due(8, "text 0", x.force(0), 1);
    }

    private static void promise9() {
        SandInTheShoe x = withCoasts(1, 2, 3, 4, 5, 6, 0, 0, 90);
        x.person(1, 0);
        x.person(0, 0);
        due(9, "a day", x.stay(0, 0), 42);
        due(9, "another day", x.stay(0, 1), 42 + 99);
        due(9, "the other's shoe", x.told(1, 6), 0);
        due(9, "out", x.told(0, 5), 2);
        due(9, "out of the other", x.told(1, 5), 0);
        due(9, "day", x.count(1), 2);
        due(9, "mark 2", x.told(2, 3), 6 + 99);
        shoe(x, 1, 9998, 9990);
        due(9, "9999 at most", x.stay(1, 0), 9999 + 9992 + 3 + 4 + 5 + 6);
        due(9, "none such", x.stay(2, 0), BAD);
        due(9, "coast 6", x.stay(0, 6), BAD);
        due(9, "coast -1", x.stay(0, -1), BAD);
        x.set(0, 0, 998);
        due(9, "the last day", x.stay(0, 2), 141);
        due(9, "no day more", x.stay(0, 2), STATE);
        due(9, "no day more, and no coast", x.stay(0, 6), BAD);
        due(9, "nothing changed", x.told(0, 5), 3);
        x.force(read(x, "takes day;keeps 0;sure 0;"));
        x.set(0, 0, 7);
        shoe(x, 1, 0, 0, 0, 0, 0, 0);
        due(9, "told by the day that ends", x.stay(1, 0), 42);
    }

    private static void promise10() {
        for (int kind = 0; kind < 6; kind++) {
            SandInTheShoe x = new SandInTheShoe();
            x.person(kind, 0);
            shoe(x, 0, 101, 7, 91);
            // kept of a person: 50, 3, 45; of a captain: 25, 1, 22; of a professor: 91, 0, 81
            int[] due = {101, 101, 0, 151, 27, 199};
            x.person(0, 0);
            shoe(x, 1, 200, 3);
            due(10, "shake of kind " + kind, x.shake(0), due[kind]);
            due(10, "the rest of kind " + kind, x.told(0, 6), 199 - due[kind]);
            due(10, "the other's shoe", x.told(1, 6), 203);
            shoe(x, 0, 9999);
            // 4999 kept of a person, half of it of a captain
            int[] kept = {4999, 4999, 9999, 2499, 9989, 0};
            x.shake(0);
            due(10, "kept of 9999", x.told(0, 3), kept[kind]);
        }
        SandInTheShoe x = new SandInTheShoe();
        x.person(0, 0);
        shoe(x, 0, 60, 40);
        x.force(read(x, "takes 0;keeps shoe;sure 0;"));
        due(10, "all told ahead", x.shake(0), 0);
        due(10, "none such", x.shake(1), BAD);
        due(10, "one -1", x.shake(-1), BAD);
        due(10, "out stays", x.told(0, 5), 0);
        due(10, "day stays", x.count(1), 0);
    }

    private static void promise11() {
        SandInTheShoe x = new SandInTheShoe();
        x.person(0, 1);
        x.person(2, 4);
        shoe(x, 0, 5, 0, 7, 0, 1);
        shoe(x, 1, 1, 2, 9);
        due(11, "like", x.like(0, 1, 0), 4 + 2 + 2 + 1);
        due(11, "like the other way", x.like(1, 0, 0), 9);
        due(11, "a clerk tells", x.like(0, 1, 1), 9 + 11 + 5);
        due(11, "a person tells", x.like(1, 0, 1), 12);
        x.force(read(x, "takes 0;keeps 0;sure shoe + number;"));
        due(11, "of that shoe, the examiner's number", x.like(0, 1, 1), 3 * (13 + 4 + 4));
        due(11, "one and the same", x.like(0, 0, 0), BAD);
        due(11, "no such other", x.like(0, 2, 0), BAD);
        due(11, "no such one", x.like(-1, 0, 0), BAD);
        due(11, "what 2", x.like(0, 1, 2), BAD);
        due(11, "what -1", x.like(0, 1, -1), BAD);
    }

    private static void promise12() {
        SandInTheShoe x = withCoasts(1, 1, 1, 1, 1, 1, 0, 0, 0, 0, 0, 5, 5, 0, 0, 0, 0, 0, 9, 9, 9, 9, 9, 9, 6, 0, 0, 0, 0, 0, 7);
        due(12, "nobody there", x.odd(0, 2), BAD);
        x.person(0, 0);
        due(12, "nobody else", x.odd(0, 0), -1);
        due(12, "nobody else, apart", x.odd(0, 1), -1);
        due(12, "poor, the first", x.odd(0, 2), 1);
        x.person(0, 0);
        due(12, "all alike", x.odd(0, 0), 1);
        due(12, "all alike, apart", x.odd(0, 1), 0);
        x.person(0, 0);
        x.person(0, 0);
        shoe(x, 0, 3);
        shoe(x, 2, 0, 4);
        shoe(x, 3, 0, 0, 4);
        due(12, "odd, the first", x.odd(0, 0), 2);
        due(12, "odd, apart", x.odd(0, 1), 7);
        due(12, "the first may be the oddest", x.odd(1, 0), 2);
        shoe(x, 0, 30);
        due(12, "the first is the oddest", x.odd(1, 0), 0);
        shoe(x, 0, 3);
        due(12, "odd of another", x.odd(2, 0), 3);
        due(12, "odd of another, apart", x.odd(2, 1), 8);
        for (int coast = 1; coast < 6; coast++) {
            x.set(1, 10 * coast, 50);
        }
        due(12, "poor, the first of all", x.odd(0, 2), 0);
        due(12, "none such", x.odd(4, 0), BAD);
        due(12, "none such, poor", x.odd(4, 2), BAD);
        due(12, "what 3", x.odd(0, 3), BAD);
        due(12, "what -1", x.odd(0, -1), BAD);
    }

    private static void promise13() {
        SandInTheShoe x = new SandInTheShoe();
        x.person(0, 0);
        due(13, "an empty shoe", x.mean(0, 0, 0), NO);
        shoe(x, 0, 6, 0, 15);
        due(13, "above", x.mean(0, 0, 0), 2);
        due(13, "below", x.mean(0, 0, 1), 7);
        due(13, "none of it", x.mean(0, 1, 0), 0);
        due(13, "none of it, below", x.mean(0, 1, 1), 1);
        shoe(x, 0, 0, 0, 15);
        due(13, "all of it", x.mean(0, 2, 0), 1);
        due(13, "all of it, below", x.mean(0, 2, 1), 1);
        shoe(x, 0, 9999, 9999, 9999, 9999, 9999, 9998);
        due(13, "much", x.mean(0, 5, 0), 9998);
        due(13, "much, below", x.mean(0, 5, 1), 59993);
        due(13, "none such", x.mean(1, 0, 0), NO);
        due(13, "one -1", x.mean(-1, 0, 0), NO);
        due(13, "mark 6", x.mean(0, 6, 0), NO);
        due(13, "mark -1", x.mean(0, -1, 0), NO);
        due(13, "part 2", x.mean(0, 0, 2), NO);
        due(13, "part -1", x.mean(0, 0, -1), NO);
    }

    private static void badStays(int promise, SandInTheShoe x, int days) {
        due(promise, "days " + days, x.stays(0, days, 0), BAD);
        due(promise, "pack days " + days, x.pack(0, 0, days), BAD);
    }

    private static void promise14() {
        SandInTheShoe x = withCoasts(1, 0, 0, 0, 0, 0, 10, 0, 0, 0, 0, 0, 99, 0, 0, 0, 0, 0, 20, 0, 0, 0, 0, 0, 30, 0, 0, 0, 0, 0, 50, 7);
        x.person(0, 0);
        x.set(3, 0, 1000);
        due(14, "no days", x.stays(0, 0, 0), 0);
        due(14, "the highest is coast 0", x.stays(0, 300000, 0), 3);
        due(14, "the lowest is coast 5", x.stays(0, 2, 0), 100);
        due(14, "all", x.stays(0, 123321, 0), 1 + 20 + 297 + 60 + 60 + 50);
        due(14, "the most", x.stays(0, 333333, 1), 21);
        x.set(0, 0, 999);
        due(14, "on the last day, too", x.stays(0, 1, 1), 7);
        x.force(read(x, "takes day = 999;keeps 0;sure 0;"));
        due(14, "as of the day now", x.stays(0, 333333, 3), 18);
        due(14, "nothing changed", x.told(0, 6), 1000);
        int[] bad = {-1, 4, 40, 400, 4000, 40000, 333334, 400000, 1000000, 9, LOW, HIGH, 39};
        for (int days : bad) {
            badStays(14, x, days);
        }
        due(14, "none such", x.stays(1, 0, 0), BAD);
        due(14, "mark 6", x.stays(0, 0, 6), BAD);
        due(14, "mark -1", x.stays(0, 0, -1), BAD);
    }

    private static void promise15() {
        SandInTheShoe x = withCoasts(1, 2, 0, 0, 0, 0, 0, 0, 90);
        x.person(1, 0);
        x.sheet(3, 0, 40);
        due(15, "pack", x.pack(3, 0, 120000), 6 + 198);
        due(15, "six of them", x.cell(3, 6, 0), OUTSIDE);
        due(15, "ints", x.people(3, 2, 0, 0), 0);
        due(15, "as told", x.fit(3, 0, 1), 120000);
        due(15, "an empty one", x.pack(3, 0, 3333), 0);
        due(15, "a missing one", x.pack(0, 0, 300000), 18);
        due(15, "sheet 4", x.pack(4, 0, 0), BAD);
        due(15, "sheet -1", x.pack(-1, 0, 0), BAD);
        due(15, "none such", x.pack(0, 1, 0), BAD);
        due(15, "still as told", x.fit(0, 0, 2), 3);
    }

    private static void fits(SandInTheShoe x, int... due) {
        for (int what = 0; what < due.length; what++) {
            due(16, "fit what " + what, x.fit(0, 0, what), due[what]);
        }
    }

    private static void promise16() {
        // mark 0: coast 0 has 1, coast 1 has 2, coast 2 has 3, coasts 3 .. 5 are 5 of mark 1
        SandInTheShoe x = withCoasts(1, 0, 0, 0, 0, 0, 2, 0, 0, 0, 0, 0, 3, 0, 0, 0, 0, 0, 0, 5, 0, 0, 0, 0, 0, 5, 0, 0, 0, 0, 0, 5);
        x.person(0, 0);
        row(x, 0, 2, 3, 5, 0, 0, 0, 0);
        // mark 0 by 300, 110, 001; mark 1 by 100, 010, 001
        fits(x, 9, 1001, 2, 0, 63);
        row(x, 0, 1, 1, 0, 0, 0, 0, 0);
        fits(x, 1, 100000, 1, 1, 1);
        row(x, 0, 0, 0, 45, 0, 0, 0, 0);
        fits(x, 1, 333, 9, 56, 56);
        row(x, 0, 2, 0, 0, 0, 0, 0, 0);
        fits(x, 1, 0, 0, 0, 0);
        row(x, 0, 2, 0, 0, 0, 0, 0, 1);
        fits(x, 0, -1, -1, 0, 0);
        row(x, 0, 2, -1, 0, 0, 0, 0, 0);
        fits(x, 0, -1, -1, 0, 0);
        row(x, 0, 2, 0, 40, 0, 0, 0, 0);
        fits(x, 3, 233, 8, 56, 56);
        due(16, "sheet 4", x.fit(4, 0, 0), BAD);
        due(16, "none such", x.fit(0, 1, 0), BAD);
        due(16, "what 5", x.fit(0, 0, 5), BAD);
        due(16, "what -1", x.fit(0, 0, -1), BAD);
        due(16, "missing", x.fit(1, 0, 0), NOTHING);
        due(16, "missing, and what 5", x.fit(1, 0, 5), BAD);
        x.sheet(1, 2, 5);
        due(16, "five", x.fit(1, 0, 0), BAD);
        x.sheet(1, 2, 7);
        due(16, "seven", x.fit(1, 0, 0), BAD);
        x.set(3, 0, 77);
        x.sheet(1, 2, 6);
        due(16, "from an empty shoe", x.fit(1, 0, 0), 1);
    }

    private static void promise17() {
        SandInTheShoe x = withCoasts(1, 0, 0, 0, 0, 0, 2, 0, 0, 0, 0, 0, 3, 0, 0, 0, 0, 0, 0, 5, 0, 0, 0, 0, 0, 5, 0, 0, 0, 0, 0, 5);
        x.person(0, 0);
        row(x, 0, 2, 3, 5, 0, 0, 0, 0);
        int[] above = {2, 1, 1, 1, 1, 1};
        for (int coast = 0; coast < 6; coast++) {
            due(17, "share of " + coast, x.share(0, 0, coast, 0), above[coast]);
            due(17, "share of " + coast + ", below", x.share(0, 0, coast, 1), 3);
        }
        row(x, 0, 2, 0, 5, 0, 0, 0, 0);
        due(17, "never", x.share(0, 0, 0, 0), 0);
        due(17, "never, below", x.share(0, 0, 0, 1), 1);
        due(17, "sheet 4", x.share(4, 0, 0, 0), NO);
        due(17, "missing", x.share(1, 0, 0, 0), NO);
        due(17, "none such", x.share(0, 1, 0, 0), NO);
        due(17, "coast 6", x.share(0, 0, 6, 0), NO);
        due(17, "coast -1", x.share(0, 0, -1, 0), NO);
        due(17, "part 2", x.share(0, 0, 0, 2), NO);
        due(17, "part -1", x.share(0, 0, 0, -1), NO);
        x.sheet(1, 2, 7);
        due(17, "seven", x.share(1, 0, 0, 0), NO);
        row(x, 1, 2, 0, 4, 0, 0, 0, 0);
        due(17, "none fit", x.share(1, 0, 0, 0), NO);
    }

    private static void promise18() {
        SandInTheShoe x = withCoasts(1, 0, 0, 0, 0, 0, 4, 0, 0, 0, 0, 0, 0, 3, 0, 0, 0, 0, 4, 0, 0, 0, 0, 0, 0, 0, 2, 0, 0, 0, 0, 0, 0, 1);
        x.person(0, 0);
        x.person(0, 0);
        shoe(x, 0, 10, 10);
        shoe(x, 1, 18, 13);
        due(18, "no days", x.go(0, 1, 0, 0), 0);
        due(18, "no days, apart", x.go(0, 1, 0, 1), 11);
        due(18, "a day", x.go(0, 1, 1, 0), 2);
        due(18, "a day, apart", x.go(0, 1, 1, 1), 7);
        due(18, "two days", x.go(0, 1, 2, 0), 22);
        due(18, "two days, apart", x.go(0, 1, 2, 1), 3);
        due(18, "three days", x.go(0, 1, 3, 0), 223);
        due(18, "three days, apart", x.go(0, 1, 3, 1), 0);
        due(18, "the other way", x.go(1, 0, 1, 0), 1);
        due(18, "the other way, apart", x.go(1, 0, 1, 1), 12);
        shoe(x, 0, 9998);
        shoe(x, 1, 9999);
        due(18, "9999 at most", x.go(0, 1, 3, 0), 113);
        due(18, "9999 at most, apart", x.go(0, 1, 3, 1), 0);
        due(18, "nothing changed", x.told(0, 3), 9998);
        due(18, "no such one", x.go(2, 0, 0, 0), BAD);
        due(18, "no such other", x.go(0, 2, 0, 0), BAD);
        due(18, "one and the same", x.go(1, 1, 0, 0), BAD);
        due(18, "n 4", x.go(0, 1, 4, 0), BAD);
        due(18, "n -1", x.go(0, 1, -1, 0), BAD);
        due(18, "what 2", x.go(0, 1, 0, 2), BAD);
        due(18, "what -1", x.go(0, 1, 0, -1), BAD);
    }

    private static void tells(SandInTheShoe x, int one, int coast, int... due) {
        for (int what = 0; what < due.length; what++) {
            due(19, "tells what " + what, x.tells(0, one, coast, what), due[what]);
        }
    }

    private static void promise19() {
        SandInTheShoe x = withCoasts(10, 4, 0, 0, 0, 0, 10, 4, 0, 0, 0, 0, 20, 8);
        x.person(0, 3);
        x.person(3, 1);
        read(x, "takes grains + (day < 2) ;keeps 0;sure 0;");
        read(x, "takes 10 - 6 * mark;keeps 0;sure 0;");
        row(x, 0, 0, 10, 4);
        tells(x, 0, 0, -1, 1, 1023, 100, 0, 3, 5);
        tells(x, 0, 2, 0, 4 + 16, 0, 0, -1, 3, 4);
        row(x, 0, 1, 20, 9, 0);
        // a captain by number 1 takes 20, 9, 0; by number 7 20, 15
        tells(x, 1, 0, -1, 8, 2, 100, 0, 3, 5);
        tells(x, 0, 0, 0, 0, 0, 0, -1, 0, 0);
        x.force(1);
        row(x, 0, 2, 10);
        tells(x, 0, 0, 0, 0, 0, 98, 2, 0, 5);
        x.set(0, 0, 50);
        tells(x, 0, 0, -1, 1 + 32, 1023, 98, 2, 3, 7);
        row(x, 0, 2, 10, 4, 0, 0, 0, 9);
        tells(x, 0, 0, 5, 0, 0, 0, -1, 0, 0);
        x.sheet(0, 2, 0);
        tells(x, 0, 5, -1, 63, 1023, 100, 0, 63, 7);
        x.force(read(x, "takes day = 99;keeps 0;sure 0;"));
        row(x, 0, 2, 1);
        due(19, "day 99", x.tells(0, 0, 0, 4), 99);
        due(19, "one day", x.tells(0, 0, 0, 3), 1);
        x.force(read(x, "takes day = 100;keeps 0;sure 0;"));
        due(19, "day 100 is not asked", x.tells(0, 0, 0, 4), -1);
        due(19, "no day", x.tells(0, 0, 0, 3), 0);
        due(19, "sheet 4", x.tells(4, 0, 0, 0), BAD);
        due(19, "none such", x.tells(0, 2, 0, 0), BAD);
        due(19, "coast 6", x.tells(0, 0, 6, 0), BAD);
        due(19, "coast -1", x.tells(0, 0, -1, 0), BAD);
        due(19, "what 7", x.tells(0, 0, 0, 7), BAD);
        due(19, "what -1", x.tells(0, 0, 0, -1), BAD);
        due(19, "missing", x.tells(1, 0, 0, 0), NOTHING);
        due(19, "missing, and what 7", x.tells(1, 0, 0, 7), BAD);
        x.sheet(1, 0, 7);
        due(19, "seven", x.tells(1, 0, 0, 0), BAD);
    }

    private static void promise20() {
        SandInTheShoe x = withCoasts(10, 40, 0, 3, 0, 60);
        x.person(1, 0);
        due(20, "film", x.film(2, 0, 0), 20 + 80 + 6 + 99);
        due(20, "six of them", x.cell(2, 6, 0), OUTSIDE);
        due(20, "bytes", x.people(2, 0, 0, 0), 0);
        due(20, "as told", x.tells(2, 0, 0, 0), -1);
        due(20, "a bare coast", x.film(2, 0, 1), 0);
        due(20, "sheet 4", x.film(4, 0, 0), BAD);
        due(20, "sheet -1", x.film(-1, 0, 0), BAD);
        due(20, "none such", x.film(0, 1, 0), BAD);
        due(20, "coast 6", x.film(0, 0, 6), BAD);
        due(20, "coast -1", x.film(0, 0, -1), BAD);
        due(20, "still missing", x.cell(0, 0, 0), NOTHING);
    }

    /** One grain on coast 0, ten on coast 1, and so on to mark 5: the drawn coasts can be told apart. */
    private static SandInTheShoe drawing() {
        SandInTheShoe x = new SandInTheShoe();
        for (int coast = 0; coast < 6; coast++) {
            x.set(1, 11 * coast, coast + 1);
        }
        x.person(0, 0);
        return x;
    }

    private static void promise21() {
        SandInTheShoe x = drawing();
        // From seed 0 z is 12345, and 12345 >>> 9 is 24: coast 0, of 1 grain.
        due(21, "no days", x.drawn(0, 0, 0), 0);
        due(21, "a day", x.drawn(0, 0, 1), 1);
        due(21, "two days", x.drawn(0, 0, 2), 5);
        due(21, "five days", x.drawn(0, 0, 5), 14);
        due(21, "the most days", x.drawn(0, 0, 40), 150);
        due(21, "by seed 1", x.drawn(1, 0, 40), 149);
        due(21, "by seed -1", x.drawn(-1, 0, 40), 133);
        due(21, "by the most", x.drawn(HIGH, 0, 40), 145);
        due(21, "by the least", x.drawn(LOW, 0, 7), 29);
        due(21, "by seed 123456789", x.drawn(123456789, 0, 13), 25);
        x.set(3, 5, 100);
        due(21, "from one's own shoe", x.drawn(0, 0, 1), 101);
        due(21, "it stays as it was", x.told(0, 6), 100);
        shoe(x, 0, 9999, 9999, 9999, 9999, 9999, 9999);
        due(21, "9999 at most", x.drawn(-1, 0, 40), 59994);
        x.set(0, 0, 999);
        due(21, "on the last day, too", x.drawn(HIGH, 0, 40), 59994);
        due(21, "none such", x.drawn(0, 1, 0), BAD);
        due(21, "n 41", x.drawn(0, 0, 41), BAD);
        due(21, "n -1", x.drawn(0, 0, -1), BAD);
    }

    /** The rule is that one takes so much of each mark. */
    private static void ruleOfTakes(SandInTheShoe x, String expression) {
        x.force(read(x, "takes " + expression + ";keeps 0;sure 0;"));
    }

    private static void promise21ByDays() {
        SandInTheShoe x = drawing();
        // By seed 1 the coasts are 1, 4 and 0, of 2, 5 and 1 grains.
        ruleOfTakes(x, "grains * (day = 1)");
        due(21, "not yet day 1", x.drawn(1, 0, 1), 0);
        due(21, "day 1 is the second", x.drawn(1, 0, 2), 5);
        due(21, "day 1 is over", x.drawn(1, 0, 3), 5);
        x.set(0, 0, 1);
        due(21, "day 1 is the first", x.drawn(1, 0, 3), 2);
        due(21, "day stays", x.told(0, 0), 1);
        due(21, "out stays", x.told(0, 5), 0);
        x.set(0, 0, 2);
        due(21, "day 1 was", x.drawn(1, 0, 40), 0);
        ruleOfTakes(x, "grains * (day = 2)");
        x.set(0, 0, 0);
        due(21, "day 2 is the third", x.drawn(1, 0, 3), 1);
        ruleOfTakes(x, "day");
        due(21, "days 0 .. 39", x.drawn(1, 0, 40), 6 * 780);
        due(21, "days 0 .. 39 again", x.drawn(1, 0, 40), 6 * 780);
        x.set(3, 0, 9990);
        due(21, "days 0 .. 9, on top of a shoe", x.drawn(5, 0, 10), 9999 + 5 * 45);
        x.set(3, 0, 0);
        ruleOfTakes(x, "day - 998");
        x.set(0, 0, 999);
        due(21, "days 999 .. 1001", x.drawn(1, 0, 3), 6 * (1 + 2 + 3));
        x.set(0, 0, 0);
        x.person(1, 0);
        x.person(2, 0);
        x.person(3, 4);
        x.person(4, 0);
        x.person(5, 0);
        ruleOfTakes(x, "day");
        due(21, "a sailor", x.drawn(1, 1, 4), 6 * 12);
        due(21, "a clerk, cut each day", x.drawn(1, 2, 4), 6 * 2);
        due(21, "a captain", x.drawn(1, 3, 4), 6 * 12 + 4 * 4);
        due(21, "a professor", x.drawn(1, 4, 4), 5 * 2);
        x.stay(4, 0);
        due(21, "a day on", x.drawn(1, 4, 4), 5 * 4);
    }

    private static void promise22ByDays() {
        SandInTheShoe x = drawing();
        ruleOfTakes(x, "day");
        // Of each seed the days are 0 .. 4, 60 grains.
        due(22, "60 by each seed", x.chance(9, 20, 0, 60, 0), 1);
        due(22, "61 by none", x.chance(9, 20, 0, 61, 0), 0);
        x.set(0, 0, 7);
        due(22, "7 .. 11 by each", x.chance(9, 20, 0, 270, 0), 1);
        due(22, "more by none", x.chance(9, 20, 0, 271, 0), 0);
        due(22, "day stays", x.told(0, 0), 7);
        ruleOfTakes(x, "grains * (day = 8)");
        // The second day by seeds 0 and 1 is on coasts 3 and 4.
        due(22, "the second day alone", x.chance(0, 2, 0, 5, 0), 1);
        due(22, "the second day alone, below", x.chance(0, 2, 0, 5, 1), 2);
        due(22, "4 by both", x.chance(0, 2, 0, 4, 1), 1);
    }

    /** Where the document says that takes is told as the day is now, days don't go by in thought. */
    private static void promises14to18ByDays() {
        SandInTheShoe x = new SandInTheShoe();
        x.person(0, 0);
        x.person(0, 0);
        ruleOfTakes(x, "day * (coast + 1)");
        x.set(0, 0, 2);
        due(14, "all days as the day now", x.stays(0, 300001, 0), 3 * 2 + 12);
        due(15, "all days as the day now", x.pack(0, 0, 110000), 6 * (2 + 4));
        due(16, "all days as the day now", x.fit(0, 0, 1), 1000);
        due(16, "by 3 days, by 2, by 1", x.fit(0, 0, 0), 3);
        due(17, "one of three", x.share(0, 0, 2, 1), 3);
        shoe(x, 1, 6, 6, 6, 6, 6, 6);
        due(18, "three days as the day now", x.go(0, 1, 3, 0), 111);
        due(18, "three days as the day now, apart", x.go(0, 1, 3, 1), 0);
    }

    private static void promise22() {
        SandInTheShoe x = drawing();
        int[] seeds = {0, -3, HIGH - 1, LOW};
        for (int seed : seeds) {
            int reached = 0;
            for (int i = 0; i < 20; i++) {
                reached += x.drawn(seed + i, 0, 5) >= 18 ? 1 : 0;
            }
            long below = x.chance(seed, 20, 0, 18, 1);
            due(22, "chance by seed " + seed, x.chance(seed, 20, 0, 18, 0) * 20, reached * below);
            due(22, "20 over it by seed " + seed, 20 % below, 0);
        }
        due(22, "10 of 20", x.chance(-3, 20, 0, 18, 0), 1);
        due(22, "10 of 20, below", x.chance(-3, 20, 0, 18, 1), 2);
        due(22, "6 of 15", x.chance(100, 15, 0, 18, 0), 2);
        due(22, "6 of 15, below", x.chance(100, 15, 0, 18, 1), 5);
        due(22, "6 of 6, over the most", x.chance(HIGH - 1, 6, 0, 18, 1), 1);
        due(22, "always", x.chance(7, 20, 0, 0, 0), 1);
        due(22, "always, below", x.chance(7, 20, 0, 0, 1), 1);
        due(22, "never", x.chance(7, 20, 0, 31, 0), 0);
        due(22, "never, below", x.chance(7, 20, 0, 99999, 1), 1);
        due(22, "m 0", x.chance(0, 0, 0, 0, 0), NO);
        due(22, "m 21", x.chance(0, 21, 0, 0, 0), NO);
        due(22, "none such", x.chance(0, 1, 1, 0, 0), NO);
        due(22, "k 100000", x.chance(0, 1, 0, 100000, 0), NO);
        due(22, "k -1", x.chance(0, 1, 0, -1, 0), NO);
        due(22, "part 2", x.chance(0, 1, 0, 0, 2), NO);
        due(22, "part -1", x.chance(0, 1, 0, 0, -1), NO);
        int exact = x.drawn(5, 0, 5);
        due(22, "k or more", x.chance(5, 1, 0, exact, 0), 1);
        due(22, "below k", x.chance(5, 1, 0, exact + 1, 0), 0);
    }

    private static void promise23and24() {
        SandInTheShoe x = withCoasts(1, 2);
        due(24, "no image", x.back(), STATE);
        due(23, "an image of nobody", x.image(), 0);
        x.person(1, 5);
        due(24, "nobody", x.back(), 0);
        due(24, "who came is gone", x.told(0, 4), BAD);
        x.person(2, 5);
        x.stay(0, 0);
        read(x, "takes 7;keeps 0;sure 0;");
        due(23, "an image of one", x.image(), 1);
        x.set(1, 0, 50);
        x.set(2, 0, 9);
        x.stay(0, 0);
        x.force(1);
        x.set(0, 0, 700);
        x.person(3, 3);
        x.stay(1, 0);
        shoe(x, 1, 1, 2, 3, 4, 5, 6);
        x.feed('a');
        x.sheet(1, 0, 3);
        due(24, "one", x.back(), 1);
        due(24, "coast", x.told(0, 1), 1);
        due(24, "day", x.count(1), 1);
        due(24, "number", x.told(0, 2), 5);
        due(24, "kind", x.told(0, 4), 2);
        due(24, "shoe", x.told(0, 6), 1);
        due(24, "out", x.told(0, 5), 1);
        due(24, "the rule", x.count(5), 0);
        due(24, "texts stay", x.count(3), 2);
        due(24, "the tape stays", x.count(4), 1);
        due(24, "sheets stay", x.cell(1, 2, 0), 1);
        due(24, "one comes anew", x.person(4, 1), 1);
        due(24, "with an empty shoe", x.told(1, 6), 0);
        due(24, "not out yet", x.told(1, 5), 0);
        x.set(3, 0, 88);
        due(24, "again", x.back(), 1);
        due(24, "shoe again", x.told(0, 6), 1);
    }

    private static void promise25() {
        SandInTheShoe x = new SandInTheShoe();
        x.person(0, 0);
        x.person(0, 0);
        shoe(x, 0, 1, 2);
        shoe(x, 1, 0, 0, 4);
        x.set(0, 0, 3);
        x.force(read(x, "takes 1;keeps 1;sure 1;"));
        feed(x, "abcd");
        int[] due = {2, 3, 7, 2, 4, 1};
        for (int what = 0; what < 6; what++) {
            due(25, "count " + what, x.count(what), due[what]);
        }
        due(25, "count 6", x.count(6), BAD);
        due(25, "count -1", x.count(-1), BAD);
    }

    private static void promise26() {
        SandInTheShoe x = new SandInTheShoe();
        for (int sort = 0; sort < 3; sort++) {
            due(26, "a row", x.sheet(3, sort, 40), 1);
            due(26, "its last", x.cell(3, 39, 9), 1);
            due(26, "behind it", x.cell(3, 40, 9), OUTSIDE);
            due(26, "its sort", x.people(3, sort, 0, 0), 0);
        }
        due(26, "none", x.sheet(3, 1, 0), 1);
        due(26, "none in it", x.cell(3, 0, 9), OUTSIDE);
        row(x, 3, 2, 5, 5);
        due(26, "anew", x.sheet(3, 2, 6), 1);
        x.person(0, 0);
        due(26, "all 0", x.fit(3, 0, 1), 0);
        due(26, "missing", x.sheet(3, -1, LOW), 1);
        due(26, "is missing", x.cell(3, 0, 0), NOTHING);
        due(26, "missing again", x.sheet(3, -1, 41), 1);
        due(26, "sheet 4", x.sheet(4, 0, 0), BAD);
        due(26, "sheet -1", x.sheet(-1, 0, 0), BAD);
        due(26, "sort 3", x.sheet(0, 3, 0), BAD);
        due(26, "sort -2", x.sheet(0, -2, 0), BAD);
        due(26, "41", x.sheet(0, 0, 41), BAD);
        due(26, "-1", x.sheet(0, 0, -1), BELOW);
        due(26, "the least", x.sheet(0, 0, LOW), BELOW);
        due(26, "-1 of sort 3", x.sheet(0, 3, -1), BAD);
        due(26, "nothing changed", x.cell(0, 0, 0), NOTHING);
    }

    private static void promise27() {
        SandInTheShoe x = withCoasts(5);
        x.person(0, 0);
        int[] sizes = {256 + 5, 65536 + 5, 5};
        for (int sort = 0; sort < 3; sort++) {
            x.sheet(0, sort, 6);
            due(27, "a cell", x.cell(0, 0, sizes[sort]), 1);
            due(27, "its lowest bits", x.fit(0, 0, 1), 100000);
        }
        due(27, "more than a short", x.cell(0, 0, 65536 + 5), 1);
        due(27, "as it is", x.fit(0, 0, 0), 0);
        due(27, "item 6", x.cell(0, 6, 0), OUTSIDE);
        due(27, "item -1", x.cell(0, -1, 0), OUTSIDE);
        due(27, "the most", x.cell(0, HIGH, 0), OUTSIDE);
        due(27, "missing", x.cell(1, 0, 0), NOTHING);
        due(27, "missing, item -1", x.cell(1, -1, 0), NOTHING);
        due(27, "sheet 4", x.cell(4, 0, 0), BAD);
        due(27, "sheet -1", x.cell(-1, 0, 0), BAD);
    }

    private static void promise28() {
        SandInTheShoe x = withCoasts(1, 2, 3, 4, 5, 6, 1, 1, 2, 3, 5, 6);
        x.person(0, 0);
        row(x, 0, 2, 9, 1, 2, 3, 4, 5, 6);
        x.sheet(1, 2, 6);
        due(28, "copy", x.copy(0, 1, 1, 0, 6), 6);
        due(28, "as they were", x.tells(1, 0, 0, 0), -1);
        due(28, "onto itself", x.copy(1, 0, 1, 1, 4), 4);
        due(28, "1 1 2 3 4 6 then", x.tells(1, 0, 1, 0), 4);
        due(28, "none", x.copy(0, 7, 1, 6, 0), 0);
        due(28, "too many", x.copy(0, 1, 1, 0, 7), OUTSIDE);
        due(28, "too many there", x.copy(0, 0, 1, 1, 6), OUTSIDE);
        due(28, "from -1", x.copy(0, -1, 1, 0, 1), OUTSIDE);
        due(28, "to -1", x.copy(0, 0, 1, -1, 1), OUTSIDE);
        due(28, "n -1", x.copy(0, 1, 1, 1, -1), OUTSIDE);
        due(28, "none from 8", x.copy(0, 8, 1, 0, 0), OUTSIDE);
        due(28, "the most", x.copy(0, HIGH, 1, HIGH, HIGH), OUTSIDE);
        due(28, "n the most", x.copy(0, 1, 1, 1, HIGH), OUTSIDE);
        due(28, "n the least", x.copy(0, 1, 1, 1, LOW), OUTSIDE);
        due(28, "from missing", x.copy(2, 0, 1, 0, 1), NOTHING);
        due(28, "to missing", x.copy(0, 0, 2, 0, 1), NOTHING);
        x.sheet(2, 1, 6);
        due(28, "unlike", x.copy(0, 0, 2, 0, 1), UNLIKE);
        due(28, "unlike, and outside", x.copy(0, 9, 2, 0, -1), UNLIKE);
        due(28, "sheet 4", x.copy(4, 0, 0, 0, 0), BAD);
        due(28, "to sheet -1", x.copy(3, 0, -1, 0, 0), BAD);
    }

    private static void promise29() {
        SandInTheShoe x = new SandInTheShoe();
        row(x, 0, 0, 7, 3, 9, 6, 0, 1, 2, 0, 10, 2);
        due(29, "none", x.people(0, 0, HIGH, 0), 0);
        due(29, "two, and one left out", x.people(0, 0, 1, 3), 2);
        due(29, "kind", x.told(0, 4), 3);
        due(29, "number", x.told(0, 2), 9);
        due(29, "kind of the next", x.told(1, 4), 1);
        due(29, "one, then outside", x.people(0, 0, 5, 4), OUTSIDE);
        due(29, "what stood ahead came", x.count(0), 3);
        due(29, "half of one", x.people(0, 0, 9, 1), OUTSIDE);
        due(29, "from -1", x.people(0, 0, -1, 1), OUTSIDE);
        due(29, "from the most", x.people(0, 0, HIGH, 5), OUTSIDE);
        due(29, "from the least", x.people(0, 0, LOW, 5), OUTSIDE);
        due(29, "another sort", x.people(0, 1, -1, 1), UNLIKE);
        due(29, "missing", x.people(1, 1, -1, 1), NOTHING);
        due(29, "sheet 4", x.people(4, 0, 0, 0), BAD);
        due(29, "sheet -1", x.people(-1, 0, 0, 0), BAD);
        due(29, "sort 3", x.people(0, 3, 0, 0), BAD);
        due(29, "sort -1", x.people(1, -1, 0, 0), BAD);
        due(29, "n 6", x.people(0, 0, 0, 6), BAD);
        due(29, "n -1", x.people(0, 0, 0, -1), BAD);
        row(x, 0, 2, 0, 0, 1, 1, 2, 2, 3, 3);
        due(29, "two, then no room", x.people(0, 2, 0, 4), 2);
        due(29, "all", x.count(0), 5);
        due(29, "no room, then outside", x.people(0, 2, 0, 5), OUTSIDE);
    }

    private static void promise30() {
        String[] under = {"100000", "110000", "101000", "110100", "101010", "100001"};
        for (int kind = 0; kind < 6; kind++) {
            SandInTheShoe x = new SandInTheShoe();
            x.person(kind, 8);
            for (int k = 0; k < 6; k++) {
                due(30, kind + " taken for " + k, x.taken(0, k), under[kind].charAt(k) == '1' ? 8 : UNLIKE);
            }
            due(30, "none such", x.taken(1, 0), NOTHING);
            due(30, "one -1", x.taken(-1, 0), NOTHING);
            due(30, "kind 6", x.taken(0, 6), BAD);
            due(30, "kind -1", x.taken(0, -1), BAD);
            due(30, "kind 6 of none such", x.taken(1, 6), BAD);
        }
    }

    public static void main(String[] args) {
        promise1();
        promise2();
        promise3();
        promise4();
        promise5();
        promise6();
        promise7();
        promise8();
        promise9();
        promise10();
        promise11();
        promise12();
        promise13();
        promise14();
        promises14to18ByDays();
        promise15();
        promise16();
        promise17();
        promise18();
        promise19();
        promise20();
        promise21();
        promise21ByDays();
        promise22();
        promise22ByDays();
        promise23and24();
        promise25();
        promise26();
        promise27();
        promise28();
        promise29();
        promise30();
        System.out.println(checks + " answers of the promises, " + wrong + " not as due");
        if (wrong != 0) {
            System.exit(1);
        }
    }
}
