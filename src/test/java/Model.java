import java.util.ArrayList;
import java.util.Arrays;
import java.util.List;

/** What the document says, told a second time and as slowly as it likes: ModelTests sets both side by side. */
final class Model {
    private static final int BAD = -2, STATE = -3, FULL = -4;

    static class Refused extends RuntimeException {
        private static final long serialVersionUID = 1L;
        final int answer;

        Refused(int answer) {
            this.answer = answer;
        }
    }

    // ---- kinds

    static class Person {
        int number;
        int[] shoe = new int[6];
        int out;

        int kind() { return 0; }
        int takes(int v, int m) { return v; }
        int keeps(int v, int g) { return g * v / 100; }
        int sure(int v) { return v; }
        Person twin() {
            Person p = ofKind(kind());
            p.number = number;
            p.shoe = shoe.clone();
            p.out = out;
            return p;
        }
        static Person ofKind(int kind) {
            return switch (kind) {
                case 0 -> new Person();
                case 1 -> new Sailor();
                case 2 -> new Clerk();
                case 3 -> new Captain();
                case 4 -> new Professor();
                default -> new Child();
            };
        }
        boolean is(int k) {
            return switch (k) {
                case 0 -> true;
                case 1 -> this instanceof Sailor;
                case 2 -> this instanceof Clerk;
                case 3 -> this instanceof Captain;
                case 4 -> this instanceof Professor;
                default -> this instanceof Child;
            };
        }
        int all() { return Arrays.stream(shoe).sum(); }
    }

    static class Sailor extends Person {
        @Override int kind() { return 1; }
        @Override int takes(int v, int m) { return 2 * super.takes(v, m); }
    }

    static class Clerk extends Person {
        @Override int kind() { return 2; }
        @Override int takes(int v, int m) { return super.takes(v, m) / 2; }
        @Override int keeps(int v, int g) { return g; }
        @Override int sure(int v) { return super.sure(v) + number; }
    }

    static class Captain extends Sailor {
        @Override int kind() { return 3; }
        @Override int takes(int v, int m) { return super.takes(v, m) + (m == number % 6 ? number : 0); }
        @Override int keeps(int v, int g) { return super.keeps(v, g) / 2; }
        @Override int sure(int v) { return 0; }
    }

    static class Professor extends Clerk {
        @Override int kind() { return 4; }
        @Override int takes(int v, int m) { return m == 5 ? 0 : super.takes(v, m); }
        @Override int keeps(int v, int g) { return super.keeps(v, g) - 10; }
        @Override int sure(int v) { return 2 * super.sure(v); }
    }

    static class Child extends Person {
        @Override int kind() { return 5; }
        @Override int takes(int v, int m) { return super.takes(v, m) + m; }
        @Override int keeps(int v, int g) { return 0; }
        @Override int sure(int v) { return 1; }
    }

    // ---- texts: all tokens first, then a tree

    record Token(String is, int place) { }

    record Node(String op, int value, Node a, Node b) { }

    static final List<String> NAMES = List.of("grains", "mark", "number", "day", "coast", "shoe");
    static final List<String> KEYS = List.of("takes", "keeps", "sure", "or", "and", "not");

    static class Parser {
        final List<Token> tokens = new ArrayList<>();
        int next = 0;

        Parser(String tape) {
            int i = 0;
            while (i < tape.length()) {
                char c = tape.charAt(i);
                int from = i;
                if (c == 32 || c == 10) {
                    i++;
                    continue;
                }
                while (i < tape.length() && tape.charAt(i) >= 'a' && tape.charAt(i) <= 'z') {
                    i++;
                }
                if (i == from) {
                    while (i < tape.length() && tape.charAt(i) >= '0' && tape.charAt(i) <= '9') {
                        i++;
                    }
                }
                if (i == from) {
                    i++;
                }
                tokens.add(new Token(tape.substring(from, i), from));
            }
            tokens.add(new Token("", tape.length()));
        }

        String now() { return tokens.get(next).is(); }

        boolean takes(String is) {
            if (now().equals(is)) {
                next++;
                return true;
            }
            return false;
        }

        void must(boolean ok) {
            if (!ok) {
                throw new Refused(tokens.get(next).place());
            }
        }

        Node[] text() {
            Node[] parts = new Node[3];
            for (int i = 0; i < 3; i++) {
                must(takes(KEYS.get(i)));
                parts[i] = or(0);
                must(takes(";"));
            }
            must(now().isEmpty());
            return parts;
        }

        Node or(int open) {
            Node a = and(open);
            while (takes("or")) {
                a = new Node("or", 0, a, and(open));
            }
            return a;
        }

        Node and(int open) {
            Node a = not(open);
            while (takes("and")) {
                a = new Node("and", 0, a, not(open));
            }
            return a;
        }

        Node not(int open) {
            if (now().equals("not")) {
                must(open < 5);
                next++;
                return new Node("not", 0, not(open + 1), null);
            }
            Node a = sum(open);
            if (takes("<")) {
                return new Node("<", 0, a, sum(open));
            }
            if (takes("=")) {
                return new Node("=", 0, a, sum(open));
            }
            return a;
        }

        Node sum(int open) {
            Node a = term(open);
            while (true) {
                if (takes("+")) {
                    a = new Node("+", 0, a, term(open));
                } else if (takes("-")) {
                    a = new Node("-", 0, a, term(open));
                } else {
                    return a;
                }
            }
        }

        Node term(int open) {
            Node a = one(open);
            while (takes("*")) {
                a = new Node("*", 0, a, one(open));
            }
            return a;
        }

        Node one(int open) {
            String is = now();
            if (is.equals("-")) {
                must(open < 5);
                next++;
                return new Node("neg", 0, one(open + 1), null);
            }
            if (is.equals("(")) {
                must(open < 5);
                next++;
                Node a = or(open + 1);
                must(takes(")"));
                return a;
            }
            if (NAMES.contains(is)) {
                next++;
                return new Node("name", NAMES.indexOf(is), null, null);
            }
            must(is.matches("[0-9]{1,4}"));
            next++;
            return new Node("num", Integer.parseInt(is), null, null);
        }
    }

    static int eval(Node n, int... names) {
        int a = n.a() == null ? 0 : eval(n.a(), names);
        int b = n.b() == null ? 0 : eval(n.b(), names);
        return switch (n.op()) {
            case "num" -> n.value();
            case "name" -> names[n.value()];
            case "neg" -> -a;
            case "not" -> a == 0 ? 1 : 0;
            case "or" -> a != 0 || b != 0 ? 1 : 0;
            case "and" -> a != 0 && b != 0 ? 1 : 0;
            case "<" -> a < b ? 1 : 0;
            case "=" -> a == b ? 1 : 0;
            case "+" -> a + b;
            case "-" -> a - b;
            default -> a * b;
        };
    }

    // ---- the state

    int[][] coasts = new int[6][6];
    int day;
    List<Person> people = new ArrayList<>();
    StringBuilder tape = new StringBuilder();
    List<Node[]> texts = new ArrayList<>();
    int rule;
    Object[] sheets = new Object[4];
    Model image;

    Model() {
        texts.add(new Parser("takes grains ; keeps 50 ; sure grains ;").text());
    }

    // ---- helpers

    static void bad(boolean refused) {
        if (refused) {
            throw new Refused(BAD);
        }
    }

    static boolean out(int i, int n) { return i < 0 || i >= n; }

    static int bound(int v, int most) { return v < 0 ? 0 : Math.min(v, most); }

    Person who(int one) {
        bad(out(one, people.size()));
        return people.get(one);
    }

    int takes(Person p, int c, int m, int day, Node[] text) {
        int v = bound(eval(text[0], coasts[c][m], m, p.number, day, c, 0), 99);
        return bound(p.takes(v, m), 99);
    }

    int takes(Person p, int c, int m) { return takes(p, c, m, day, texts.get(rule)); }

    int keeps(Person p, int m) {
        int v = bound(eval(texts.get(rule)[1], p.shoe[m], m, p.number, day, 0, p.all()), 100);
        return Math.max(0, p.keeps(v, p.shoe[m]));
    }

    int sure(Person examiner, Person p, int m) {
        int v = bound(eval(texts.get(rule)[2], p.shoe[m], m, examiner.number, day, 0, p.all()), 99);
        return bound(examiner.sure(v), 999);
    }

    void stayIn(int[] shoe, Person p, int c) {
        for (int m = 0; m < 6; m++) {
            shoe[m] = Math.min(9999, shoe[m] + takes(p, c, m));
        }
    }

    static int apart(int[] a, int[] b) {
        int all = 0;
        for (int m = 0; m < 6; m++) {
            all += Math.abs(a[m] - b[m]);
        }
        return all;
    }

    static long part(long above, long below, int part) {
        long g = 1;
        for (long d = 1; d <= below; d++) {
            if (above % d == 0 && below % d == 0) {
                g = d;
            }
        }
        return part == 0 ? above / g : below / g;
    }

    static int[] numbers(Object row) {
        if (row instanceof int[] r) {
            return r;
        }
        if (row instanceof short[] r) {
            int[] n = new int[r.length];
            for (int i = 0; i < n.length; i++) {
                n[i] = r[i];
            }
            return n;
        }
        byte[] r = (byte[]) row;
        int[] n = new int[r.length];
        for (int i = 0; i < n.length; i++) {
            n[i] = r[i];
        }
        return n;
    }

    static int sortOf(Object row) { return row instanceof byte[] ? 0 : row instanceof short[] ? 1 : 2; }

    static int size(Object row) { return numbers(row).length; }

    // ---- the face

    int set(int what, int of, int v) {
        int was;
        switch (what) {
            case 0:
                bad(out(v, 1000));
                was = day;
                day = v;
                return was;
            case 1:
                bad(of < 0 || of / 10 > 5 || of % 10 > 5 || out(v, 100));
                was = coasts[of / 10][of % 10];
                coasts[of / 10][of % 10] = v;
                return was;
            case 2:
                bad(out(v, 10));
                was = who(of).number;
                who(of).number = v;
                return was;
            case 3:
                bad(of < 0 || of % 10 > 5 || out(v, 10000));
                was = who(of / 10).shoe[of % 10];
                who(of / 10).shoe[of % 10] = v;
                return was;
            default:
                return BAD;
        }
    }

    int person(int kind, int number) {
        bad(out(kind, 6) || out(number, 10));
        if (people.size() == 5) {
            return FULL;
        }
        Person p = Person.ofKind(kind);
        p.number = number;
        people.add(p);
        return people.size() - 1;
    }

    int told(int of, int what) {
        switch (what) {
            case 0:
                return day;
            case 1:
                bad(of < 0 || of / 10 > 5 || of % 10 > 5);
                return coasts[of / 10][of % 10];
            case 2:
                return who(of).number;
            case 3:
                bad(of < 0 || of % 10 > 5);
                return who(of / 10).shoe[of % 10];
            case 4:
                return who(of).kind();
            case 5:
                return who(of).out;
            case 6:
                return who(of).all();
            case 7:
                bad(out(of, 6));
                return Arrays.stream(coasts[of]).sum();
            default:
                return BAD;
        }
    }

    int asks(int one, int mark, int what) {
        Person p = who(one);
        bad(out(mark, 6) || out(what, 8));
        return what < 6 ? takes(p, what, mark) : what == 6 ? keeps(p, mark) : sure(p, p, mark);
    }

    int feed(int letter) {
        bad(out(letter, 256));
        if (tape.length() == 160) {
            return FULL;
        }
        tape.append((char) letter);
        return tape.length();
    }

    int text() {
        if (texts.size() == 6) {
            return FULL;
        }
        String all = tape.toString();
        tape.setLength(0);
        try {
            texts.add(new Parser(all).text());
        } catch (Refused fault) {
            return -100 - fault.answer;
        }
        return texts.size() - 1;
    }

    int force(int text) {
        bad(out(text, texts.size()));
        int was = rule;
        rule = text;
        return was;
    }

    int stay(int one, int coast) {
        Person p = who(one);
        bad(out(coast, 6));
        if (day == 999) {
            return STATE;
        }
        stayIn(p.shoe, p, coast);
        p.out = Math.min(9999, p.out + 1);
        day++;
        return p.all();
    }

    int shake(int one) {
        Person p = who(one);
        int[] kept = new int[6];
        for (int m = 0; m < 6; m++) {
            kept[m] = keeps(p, m);
        }
        int before = p.all();
        p.shoe = kept;
        return before - p.all();
    }

    int like(int one, int other, int what) {
        Person p = who(one);
        Person q = who(other);
        bad(one == other || out(what, 2));
        if (what == 0) {
            return apart(p.shoe, q.shoe);
        }
        int all = 0;
        for (int m = 0; m < 6; m++) {
            all += p.shoe[m] > 0 ? sure(q, p, m) : 0;
        }
        return all;
    }

    int odd(int one, int what) {
        Person p = who(one);
        bad(out(what, 3));
        if (what == 2) {
            int poor = 5;
            for (int c = 5; c >= 0; c--) {
                poor = told(c, 7) <= told(poor, 7) ? c : poor;
            }
            return poor;
        }
        int found = -1;
        for (int i = people.size() - 1; i >= 0; i--) {
            if (i != one && (found < 0 || apart(p.shoe, who(i).shoe) >= apart(p.shoe, who(found).shoe))) {
                found = i;
            }
        }
        return what == 0 || found < 0 ? found : apart(p.shoe, who(found).shoe);
    }

    long mean(int one, int mark, int part) {
        Person p = who(one);
        bad(out(mark, 6) || out(part, 2) || p.all() == 0);
        return part(p.shoe[mark], p.all(), part);
    }

    int[] byStays(int one, int days) {
        Person p = who(one);
        String digits = String.format("%06d", days);
        bad(!digits.matches("[0-3]{6}"));
        int[] shoe = new int[6];
        for (int c = 0; c < 6; c++) {
            for (int i = '0'; i < digits.charAt(c); i++) {
                stayIn(shoe, p, c);
            }
        }
        return shoe;
    }

    int stays(int one, int days, int mark) {
        bad(out(mark, 6));
        return byStays(one, days)[mark];
    }

    int pack(int sheet, int one, int days) {
        bad(out(sheet, 4));
        int[] row = byStays(one, days);
        sheets[sheet] = row;
        return Arrays.stream(row).sum();
    }

    static int dayCount(String digits) { return digits.chars().map(d -> d - '0').sum(); }

    List<String> fits(int sheet, int one) {
        if (sheets[sheet] == null) {
            throw new Refused(-11);
        }
        bad(size(sheets[sheet]) != 6);
        int[] wanted = numbers(sheets[sheet]);
        int[][] daily = new int[6][6];
        for (int c = 0; c < 6; c++) {
            stayIn(daily[c], who(one), c);
        }
        List<String> found = new ArrayList<>();
        for (int s = 0; s < 4096; s++) {
            boolean fits = true;
            for (int m = 0; m < 6 && fits; m++) {
                int g = 0;
                for (int c = 0; c < 6; c++) {
                    g += (s >> 2 * (5 - c) & 3) * daily[c][m];
                }
                fits = g == wanted[m];
            }
            if (fits) {
                found.add(String.format("%06d", Integer.parseInt(Integer.toString(s, 4))));
            }
        }
        return found;
    }

    int fit(int sheet, int one, int what) {
        bad(out(sheet, 4) || out(what, 5));
        who(one);
        List<String> found = fits(sheet, one);
        if (what == 0) {
            return found.size();
        }
        if (what < 3) {
            String first = null;
            for (String s : found) {
                if (first == null || dayCount(s) < dayCount(first)
                    || dayCount(s) == dayCount(first) && s.compareTo(first) < 0) {
                    first = s;
                }
            }
            return first == null ? -1 : what == 1 ? Integer.parseInt(first) : dayCount(first);
        }
        int bits = 0;
        for (int c = 0; c < 6; c++) {
            int coast = c;
            boolean must = !found.isEmpty() && found.stream().allMatch(s -> s.charAt(coast) > '0');
            boolean may = found.stream().anyMatch(s -> s.charAt(coast) > '0');
            bits |= (what == 3 ? must : may) ? 1 << c : 0;
        }
        return bits;
    }

    long share(int sheet, int one, int coast, int part) {
        bad(out(sheet, 4) || out(coast, 6) || out(part, 2));
        who(one);
        List<String> found = fits(sheet, one);
        bad(found.isEmpty());
        return part(found.stream().filter(s -> s.charAt(coast) > '0').count(), found.size(), part);
    }

    int go(int one, int other, int n, int what) {
        Person p = who(one);
        Person q = who(other);
        bad(one == other || out(n, 4) || out(what, 2));
        int best = -1;
        int way = -1;
        for (int w = 0; w <= 666; w++) {
            String s = w == 0 ? "" : Integer.toString(w);
            boolean rising = s.length() == n && s.matches("1*2*3*4*5*6*");
            if (rising) {
                int[] shoe = p.shoe.clone();
                for (char c : s.toCharArray()) {
                    stayIn(shoe, p, c - '1');
                }
                if (best < 0 || apart(shoe, q.shoe) < best) {
                    best = apart(shoe, q.shoe);
                    way = w;
                }
            }
        }
        return what == 0 ? way : best;
    }

    boolean allSo(int[] row, Person p, int coast, int day, Node[] text) {
        for (int m = 0; m < row.length; m++) {
            if (row[m] != takes(p, coast, m, day, text)) {
                return false;
            }
        }
        return true;
    }

    int tells(int sheet, int one, int coast, int what) {
        bad(out(sheet, 4) || out(coast, 6) || out(what, 7));
        Person p = who(one);
        if (sheets[sheet] == null) {
            return -11;
        }
        int[] row = numbers(sheets[sheet]);
        bad(row.length > 6);
        if (what == 0) {
            for (int m = 0; m < row.length; m++) {
                if (row[m] != takes(p, coast, m)) {
                    return m;
                }
            }
            return -1;
        }
        int[] many = {0, 6, 10, 100, 100, 6, texts.size()};
        int bits = 0;
        int least = -1;
        int count = 0;
        for (int i = many[what] - 1; i >= 0; i--) {
            Person q = p.twin();
            if (what == 1) {
                q = Person.ofKind(i);
                q.number = p.number;
            }
            q.number = what == 2 ? i : q.number;
            boolean days = what == 3 || what == 4;
            if (allSo(row, q, what == 5 ? i : coast, days ? i : day, texts.get(what == 6 ? i : rule))) {
                bits |= 1 << i;
                least = i;
                count++;
            }
        }
        return what == 3 ? count : what == 4 ? least : bits;
    }

    int film(int sheet, int one, int coast) {
        bad(out(sheet, 4) || out(coast, 6));
        byte[] row = new byte[6];
        int all = 0;
        for (int m = 0; m < 6; m++) {
            row[m] = (byte) takes(who(one), coast, m);
            all += row[m];
        }
        sheets[sheet] = row;
        return all;
    }

    int drawn(int seed, int one, int n) {
        Person p = who(one);
        bad(out(n, 41));
        int[] shoe = p.shoe.clone();
        int today = day;
        int z = seed;
        while (day < today + n) {
            z = z * 1103515245 + 12345;
            stayIn(shoe, p, (z >>> 9) % 6);
            day++;
        }
        day = today;
        return Arrays.stream(shoe).sum();
    }

    long chance(int seed, int m, int one, int k, int part) {
        bad(m < 1 || m > 20 || out(k, 100000) || out(part, 2));
        who(one);
        int above = 0;
        for (int i = 0; i < m; i++) {
            above += drawn(seed + i, one, 5) >= k ? 1 : 0;
        }
        return part(above, m, part);
    }

    int image() {
        image = new Model();
        image.keep(this);
        return people.size();
    }

    private void keep(Model m) {
        for (int c = 0; c < 6; c++) {
            coasts[c] = m.coasts[c].clone();
        }
        day = m.day;
        rule = m.rule;
        people.clear();
        for (Person p : m.people) {
            people.add(p.twin());
        }
    }

    int back() {
        if (image == null) {
            return STATE;
        }
        keep(image);
        return people.size();
    }

    int count(int what) {
        return switch (what) {
            case 0 -> people.size();
            case 1 -> day;
            case 2 -> people.stream().mapToInt(Person::all).sum();
            case 3 -> texts.size();
            case 4 -> tape.length();
            case 5 -> rule;
            default -> BAD;
        };
    }

    int sheet(int sheet, int sort, int n) {
        bad(out(sheet, 4) || sort < -1 || sort > 2 || sort >= 0 && n > 40);
        if (sort >= 0 && n < 0) {
            return -14;
        }
        sheets[sheet] = switch (sort) {
            case 0 -> new byte[n];
            case 1 -> new short[n];
            case 2 -> new int[n];
            default -> null;
        };
        return 1;
    }

    int cell(int sheet, int i, int v) {
        bad(out(sheet, 4));
        Object row = sheets[sheet];
        if (row == null) {
            return -11;
        }
        if (out(i, size(row))) {
            return -12;
        }
        if (row instanceof byte[] r) {
            r[i] = (byte) v;
        } else if (row instanceof short[] r) {
            r[i] = (short) v;
        } else {
            ((int[]) row)[i] = v;
        }
        return 1;
    }

    int copy(int sheet, int i, int other, int j, int n) {
        bad(out(sheet, 4) || out(other, 4));
        if (sheets[sheet] == null || sheets[other] == null) {
            return -11;
        }
        if (sortOf(sheets[sheet]) != sortOf(sheets[other])) {
            return -13;
        }
        try {
            System.arraycopy(sheets[sheet], i, sheets[other], j, n);
        } catch (IndexOutOfBoundsException e) {
            return -12;
        }
        return n;
    }

    int people(int sheet, int sort, int from, int n) {
        bad(out(sheet, 4) || out(sort, 3) || out(n, 6));
        Object row = sheets[sheet];
        if (row != null && sortOf(row) != sort) {
            return -13;
        }
        if (row == null) {
            return -11;
        }
        int came = 0;
        for (long i = 0; i < n; i++) {
            long at = from + 2 * i;
            if (at < 0 || at + 1 >= size(row)) {
                return -12;
            }
            int[] r = numbers(row);
            try {
                came += person(r[(int) at], r[(int) at + 1]) >= 0 ? 1 : 0;
            } catch (Refused left) {
                came += 0;
            }
        }
        return came;
    }

    int taken(int one, int k) {
        bad(out(k, 6));
        if (out(one, people.size())) {
            return -11;
        }
        return who(one).is(k) ? who(one).number : -13;
    }
}
