/**
 * Sand in the shoe: coasts with sands of six marks, people who go there by the day,
 * and what the sand in one's shoe tells of where one was.
 */
public final class SandInTheShoe {
    public static final int NONE = -1, BAD = -2, STATE = -3, FULL = -4;
    public static final long NO = -4611686018427387904L;

    // The host's refusals.
    private static final int NOTHING = -11, OUTSIDE = -12, UNLIKE = -13, BELOW_ZERO = -14;

    private static final int COASTS = 6, MARKS = 6, KINDS = 6, PEOPLE = 5, TEXTS = 6;
    private static final int NUMBERS = 10, DAYS_ASKED = 100, TAPE_SIZE = 160;
    private static final int SHEETS = 4, SHEET_SIZE = 40;
    private static final int MOST_DAY = 999, MOST_ON_COAST = 99, MOST_IN_SHOE = 9999, MOST_OUT = 9999;
    private static final int MOST_DAYS_ON_COAST = 3, ALL_STAYS = 4096, MOST_STAYS = 333333;
    private static final int MOST_GOING = 3, MOST_DRAWN = 40, MOST_SEEDS = 20, DAYS_BY_CHANCE = 5, MOST_K = 99999;
    private static final int FAULT = -100;

    // What set() and told() speak of.
    private static final int OF_DAY = 0, OF_COAST = 1, OF_NUMBER = 2, OF_SHOE = 3;
    private static final int OF_KIND = 4, OF_OUT = 5, OF_WHOLE_SHOE = 6, OF_WHOLE_COAST = 7;

    // What asks() asks beyond the six coasts.
    private static final int ASK_KEEPS = 6, ASK_SURE = 7;

    // What tells() reads back; each but the first also names what is thought otherwise.
    private static final int FIRST_OTHERWISE = 0, BY_KIND = 1, BY_NUMBER = 2, BY_DAY = 3;
    private static final int LEAST_DAY = 4, BY_COAST = 5, BY_TEXT = 6;

    // The parts of a text.
    private static final int PARTS = 3, PART_TAKES = 0, PART_KEEPS = 1, PART_SURE = 2;

    private static final String FIRST_TEXT = "takes grains ; keeps 50 ; sure grains ;";

    private final World now = new World();
    private final World image = new World();
    private boolean imageKept = false;
    private final Reader reader = new Reader();
    private final Text[] texts = new Text[TEXTS];
    private int textCount = 0;
    private final Sheet[] sheets = new Sheet[SHEETS];
    private final Fit fitting = new Fit();
    // Rows that calls use again and again, so that no call makes any.
    private final int[] names = new int[6];
    private final int[] stack = new int[TAPE_SIZE];
    private final int[] dailyTakes = new int[COASTS * MARKS];
    private final int[] thought = new int[MARKS];

    public SandInTheShoe() {
        for (int i = 0; i < TEXTS; i++) {
            texts[i] = new Text();
        }
        for (int i = 0; i < SHEETS; i++) {
            sheets[i] = new Sheet();
        }
        for (int i = 0; i < FIRST_TEXT.length(); i++) {
            feed(FIRST_TEXT.charAt(i));
        }
        text();
    }

    // ---- coasts, people

    public int set(int what, int of, int v) {
        if (what < OF_DAY || what > OF_SHOE) {
            return BAD;
        }
        int was = told(of, what);
        if (was == BAD || v < 0 || v > mostOf(what)) {
            return BAD;
        }
        switch (what) {
            case OF_DAY:
                now.day = v;
                break;
            case OF_COAST:
                now.coasts[placeOf(of)] = v;
                break;
            case OF_NUMBER:
                now.numbers[of] = v;
                break;
            default:
                now.shoes[placeOf(of)] = v;
                break;
        }
        return was;
    }

    public int person(int kind, int number) {
        if (kind < 0 || kind >= KINDS || number < 0 || number >= NUMBERS) {
            return BAD;
        }
        return now.comes(kind, number);
    }

    public int told(int of, int what) {
        switch (what) {
            case OF_DAY:
                return now.day;
            case OF_COAST:
                return isPlace(of, COASTS) ? now.coasts[placeOf(of)] : BAD;
            case OF_NUMBER:
                return now.has(of) ? now.numbers[of] : BAD;
            case OF_SHOE:
                return isPlace(of, now.people) ? now.shoes[placeOf(of)] : BAD;
            case OF_KIND:
                return now.has(of) ? now.kinds[of] : BAD;
            case OF_OUT:
                return now.has(of) ? now.out[of] : BAD;
            case OF_WHOLE_SHOE:
                return now.has(of) ? now.allInShoe(of) : BAD;
            case OF_WHOLE_COAST:
                return isCoast(of) ? now.allOnCoast(of) : BAD;
            default:
                return BAD;
        }
    }

    public int asks(int one, int mark, int what) {
        if (!now.has(one) || !isMark(mark) || what < 0 || what > ASK_SURE) {
            return BAD;
        }
        if (what == ASK_KEEPS) {
            return keepsOf(one, mark);
        }
        return what == ASK_SURE ? sureOf(one, one, mark) : takesNow(one, what, mark);
    }

    // ---- texts

    public int feed(int letter) {
        if (letter < 0 || letter > 255) {
            return BAD;
        }
        return reader.add(letter);
    }

    public int text() {
        if (textCount >= TEXTS) {
            return FULL;
        }
        int fault = reader.read();
        reader.size = 0;
        if (fault != NONE) {
            return FAULT - fault;
        }
        texts[textCount].becomes(reader.code, reader.ends);
        textCount++;
        return textCount - 1;
    }

    public int force(int text) {
        if (text < 0 || text >= textCount) {
            return BAD;
        }
        int was = now.rule;
        now.rule = text;
        return was;
    }

    // ---- staying, shaking

    public int stay(int one, int coast) {
        if (!now.has(one) || !isCoast(coast)) {
            return BAD;
        }
        if (now.day >= MOST_DAY) {
            return STATE;
        }
        for (int mark = 0; mark < MARKS; mark++) {
            int place = one * MARKS + mark;
            now.shoes[place] = Math.min(now.shoes[place] + takesNow(one, coast, mark), MOST_IN_SHOE);
        }
        now.out[one] = Math.min(now.out[one] + 1, MOST_OUT);
        now.day++;
        return now.allInShoe(one);
    }

    public int shake(int one) {
        if (!now.has(one)) {
            return BAD;
        }
        int before = now.allInShoe(one);
        // What one keeps may hang on the whole shoe, so all is told before any of it goes.
        for (int mark = 0; mark < MARKS; mark++) {
            thought[mark] = keepsOf(one, mark);
        }
        System.arraycopy(thought, 0, now.shoes, one * MARKS, MARKS);
        return before - now.allInShoe(one);
    }

    public int like(int one, int other, int what) {
        if (!areTwo(one, other) || what < 0 || what > 1) {
            return BAD;
        }
        return what == 0 ? now.apart(one, other) : tellsExaminer(one, other);
    }

    public int odd(int one, int what) {
        if (!now.has(one) || what < 0 || what > 2) {
            return BAD;
        }
        if (what == 2) {
            return now.poorest();
        }
        int oddest = now.oddest(one);
        return what == 0 || oddest == NONE ? oddest : now.apart(one, oddest);
    }

    public long mean(int one, int mark, int part) {
        if (!now.has(one) || !isMark(mark) || !isPart(part)) {
            return NO;
        }
        return lowestTerms(now.shoes[one * MARKS + mark], now.allInShoe(one), part);
    }

    // ---- where one was

    public int stays(int one, int days, int mark) {
        if (!now.has(one) || !areStays(days) || !isMark(mark)) {
            return BAD;
        }
        return takesByStays(one, days, mark);
    }

    public int pack(int sheet, int one, int days) {
        if (!isSheet(sheet) || !now.has(one) || !areStays(days)) {
            return BAD;
        }
        Sheet packed = sheets[sheet];
        packed.becomes(Sheet.INTS, MARKS);
        for (int mark = 0; mark < MARKS; mark++) {
            packed.put(mark, takesByStays(one, days, mark));
        }
        return packed.all();
    }

    public int fit(int sheet, int one, int what) {
        if (!isSheet(sheet) || !now.has(one) || what < 0 || what > 4) {
            return BAD;
        }
        int refusal = findFits(sheets[sheet], one);
        if (refusal != 0) {
            return refusal;
        }
        switch (what) {
            case 0:
                return fitting.count;
            case 1:
                return fitting.first;
            case 2:
                return fitting.firstDays;
            case 3:
                return fitting.must;
            default:
                return fitting.may;
        }
    }

    public long share(int sheet, int one, int coast, int part) {
        if (!isSheet(sheet) || !now.has(one) || !isCoast(coast) || !isPart(part)) {
            return NO;
        }
        if (findFits(sheets[sheet], one) != 0) {
            return NO;
        }
        return lowestTerms(fitting.onCoast[coast], fitting.count, part);
    }

    public int go(int one, int other, int n, int what) {
        if (!areTwo(one, other) || n < 0 || n > MOST_GOING || what < 0 || what > 1) {
            return BAD;
        }
        tellDailyTakes(one);
        int ways = 1;
        for (int i = 0; i < n; i++) {
            ways = ways * COASTS;
        }
        int bestWay = 0;
        int bestApart = NONE;
        for (int way = 0; way < ways; way++) {
            if (neverGoesBack(way, n)) {
                int apart = apartAfter(one, other, way, n);
                if (bestApart == NONE || apart < bestApart) {
                    bestWay = way;
                    bestApart = apart;
                }
            }
        }
        return what == 0 ? digitsOfWay(bestWay, n) : bestApart;
    }

    // ---- what was told of taking

    public int tells(int sheet, int one, int coast, int what) {
        if (!isSheet(sheet) || !now.has(one) || !isCoast(coast) || what < FIRST_OTHERWISE || what > BY_TEXT) {
            return BAD;
        }
        Sheet telling = sheets[sheet];
        if (telling.isMissing()) {
            return NOTHING;
        }
        if (telling.size > MARKS) {
            return BAD;
        }
        switch (what) {
            case BY_KIND:
                return bitsThatTell(telling, one, coast, BY_KIND, KINDS);
            case BY_NUMBER:
                return bitsThatTell(telling, one, coast, BY_NUMBER, NUMBERS);
            case BY_DAY:
                return daysThatTell(telling, one, coast);
            case LEAST_DAY:
                return leastDayThatTells(telling, one, coast);
            case BY_COAST:
                return bitsThatTell(telling, one, coast, BY_COAST, COASTS);
            case BY_TEXT:
                return bitsThatTell(telling, one, coast, BY_TEXT, textCount);
            default:
                return firstOtherwise(telling, one, coast, FIRST_OTHERWISE, 0);
        }
    }

    public int film(int sheet, int one, int coast) {
        if (!isSheet(sheet) || !now.has(one) || !isCoast(coast)) {
            return BAD;
        }
        Sheet filmed = sheets[sheet];
        filmed.becomes(Sheet.BYTES, MARKS);
        for (int mark = 0; mark < MARKS; mark++) {
            filmed.put(mark, takesNow(one, coast, mark));
        }
        return filmed.all();
    }

    public int drawn(int seed, int one, int n) {
        if (!now.has(one) || n < 0 || n > MOST_DRAWN) {
            return BAD;
        }
        return allAfterDrawn(seed, one, n);
    }

    public long chance(int seed, int m, int one, int k, int part) {
        if (m < 1 || m > MOST_SEEDS || !now.has(one) || k < 0 || k > MOST_K || !isPart(part)) {
            return NO;
        }
        int reached = 0;
        for (int i = 0; i < m; i++) {
            if (allAfterDrawn(seed + i, one, DAYS_BY_CHANCE) >= k) {
                reached++;
            }
        }
        return lowestTerms(reached, m, part);
    }

    public int image() {
        image.becomes(now);
        imageKept = true;
        return now.people;
    }

    public int back() {
        if (!imageKept) {
            return STATE;
        }
        now.becomes(image);
        return now.people;
    }

    public int count(int what) {
        switch (what) {
            case 0:
                return now.people;
            case 1:
                return now.day;
            case 2:
                return now.allInShoes();
            case 3:
                return textCount;
            case 4:
                return reader.size;
            case 5:
                return now.rule;
            default:
                return BAD;
        }
    }

    // ---- the host

    public int sheet(int sheet, int sort, int n) {
        if (!isSheet(sheet) || sort != Sheet.MISSING && !Sheet.isSort(sort)) {
            return BAD;
        }
        if (sort == Sheet.MISSING) {
            sheets[sheet].becomes(Sheet.MISSING, 0);
            return 1;
        }
        if (n > SHEET_SIZE) {
            return BAD;
        }
        if (n < 0) {
            return BELOW_ZERO;
        }
        sheets[sheet].becomes(sort, n);
        return 1;
    }

    public int cell(int sheet, int i, int v) {
        if (!isSheet(sheet)) {
            return BAD;
        }
        Sheet changed = sheets[sheet];
        if (changed.isMissing()) {
            return NOTHING;
        }
        if (!changed.has(i)) {
            return OUTSIDE;
        }
        changed.put(i, v);
        return 1;
    }

    public int copy(int sheet, int i, int other, int j, int n) {
        if (!isSheet(sheet) || !isSheet(other)) {
            return BAD;
        }
        Sheet from = sheets[sheet];
        Sheet to = sheets[other];
        if (from.isMissing() || to.isMissing()) {
            return NOTHING;
        }
        if (from.sort != to.sort) {
            return UNLIKE;
        }
        if (!from.hasRun(i, n) || !to.hasRun(j, n)) {
            return OUTSIDE;
        }
        System.arraycopy(from.row, i, to.row, j, n);
        return n;
    }

    public int people(int sheet, int sort, int from, int n) {
        if (!isSheet(sheet) || !Sheet.isSort(sort) || n < 0 || n > PEOPLE) {
            return BAD;
        }
        Sheet list = sheets[sheet];
        if (list.isMissing()) {
            return NOTHING;
        }
        if (list.sort != sort) {
            return UNLIKE;
        }
        int came = 0;
        for (int i = 0; i < n; i++) {
            int at = from + 2 * i;
            if (!list.hasRun(at, 2)) {
                return OUTSIDE;
            }
            if (person(list.row[at], list.row[at + 1]) >= 0) {
                came++;
            }
        }
        return came;
    }

    public int taken(int one, int k) {
        if (k < 0 || k >= KINDS) {
            return BAD;
        }
        if (!now.has(one)) {
            return NOTHING;
        }
        return Kinds.isUnder(now.kinds[one], k) ? now.numbers[one] : UNLIKE;
    }

    // ---- what may be asked

    private static boolean isCoast(int coast) {
        return coast >= 0 && coast < COASTS;
    }

    private static boolean isMark(int mark) {
        return mark >= 0 && mark < MARKS;
    }

    private static boolean isPart(int part) {
        return part == 0 || part == 1;
    }

    private static boolean isSheet(int sheet) {
        return sheet >= 0 && sheet < SHEETS;
    }

    private boolean areTwo(int one, int other) {
        return now.has(one) && now.has(other) && one != other;
    }

    /** Whether of is 10 times a row's number, and a mark. */
    private static boolean isPlace(int of, int rows) {
        return of >= 0 && of / 10 < rows && of % 10 < MARKS;
    }

    private static int placeOf(int of) {
        return of / 10 * MARKS + of % 10;
    }

    private static int mostOf(int what) {
        switch (what) {
            case OF_DAY:
                return MOST_DAY;
            case OF_COAST:
                return MOST_ON_COAST;
            case OF_NUMBER:
                return NUMBERS - 1;
            default:
                return MOST_IN_SHOE;
        }
    }

    private static boolean areStays(int days) {
        if (days < 0 || days > MOST_STAYS) {
            return false;
        }
        int rest = days;
        for (int coast = 0; coast < COASTS; coast++) {
            if (rest % 10 > MOST_DAYS_ON_COAST) {
                return false;
            }
            rest = rest / 10;
        }
        return true;
    }

    // ---- the rule

    private int valueOf(int text, int part, int most) {
        int value = texts[text].value(part, names, stack);
        return Math.max(0, Math.min(value, most));
    }

    private void nameAll(int grains, int mark, int number, int day, int coast, int shoe) {
        names[0] = grains;
        names[1] = mark;
        names[2] = number;
        names[3] = day;
        names[4] = coast;
        names[5] = shoe;
    }

    private int takesOf(int kind, int number, int day, int coast, int mark, int text) {
        nameAll(now.coasts[coast * MARKS + mark], mark, number, day, coast, 0);
        return Kinds.takes(kind, valueOf(text, PART_TAKES, 99), mark, number);
    }

    private int takesNow(int one, int coast, int mark) {
        return takesOf(now.kinds[one], now.numbers[one], now.day, coast, mark, now.rule);
    }

    private int keepsOf(int one, int mark) {
        int grains = now.shoes[one * MARKS + mark];
        nameAll(grains, mark, now.numbers[one], now.day, 0, now.allInShoe(one));
        return Kinds.keeps(now.kinds[one], valueOf(now.rule, PART_KEEPS, 100), grains);
    }

    private int sureOf(int examiner, int one, int mark) {
        int number = now.numbers[examiner];
        nameAll(now.shoes[one * MARKS + mark], mark, number, now.day, 0, now.allInShoe(one));
        return Kinds.sure(now.kinds[examiner], valueOf(now.rule, PART_SURE, 99), number);
    }

    private int tellsExaminer(int one, int examiner) {
        int all = 0;
        for (int mark = 0; mark < MARKS; mark++) {
            if (now.shoes[one * MARKS + mark] > 0) {
                all += sureOf(examiner, one, mark);
            }
        }
        return all;
    }

    /** What one takes never hangs on the shoe, so a table of it serves for stays that are told as day is now. */
    private void tellDailyTakes(int one) {
        int kind = now.kinds[one];
        int number = now.numbers[one];
        for (int coast = 0; coast < COASTS; coast++) {
            for (int mark = 0; mark < MARKS; mark++) {
                dailyTakes[coast * MARKS + mark] = takesOf(kind, number, now.day, coast, mark, now.rule);
            }
        }
    }

    // ---- stays in thought

    private int takesByStays(int one, int days, int mark) {
        int grains = 0;
        int rest = days;
        for (int coast = COASTS - 1; coast >= 0; coast--) {
            grains += rest % 10 * takesNow(one, coast, mark);
            rest = rest / 10;
        }
        return grains;
    }

    /** All stays that fit the sheet stand in fitting then: 0, or a refusal. */
    private int findFits(Sheet wanted, int one) {
        if (wanted.isMissing()) {
            return NOTHING;
        }
        if (wanted.size != MARKS) {
            return BAD;
        }
        tellDailyTakes(one);
        fitting.search(dailyTakes, wanted.row);
        return 0;
    }

    /** A way is n coasts, as digits to the base 6, the first the highest. */
    private static boolean neverGoesBack(int way, int n) {
        int rest = way;
        int later = COASTS - 1;
        for (int i = 0; i < n; i++) {
            int coast = rest % COASTS;
            if (coast > later) {
                return false;
            }
            later = coast;
            rest = rest / COASTS;
        }
        return true;
    }

    private static int digitsOfWay(int way, int n) {
        int digits = 0;
        int rest = way;
        int tens = 1;
        for (int i = 0; i < n; i++) {
            digits += (rest % COASTS + 1) * tens;
            rest = rest / COASTS;
            tens = tens * 10;
        }
        return digits;
    }

    private int apartAfter(int one, int other, int way, int n) {
        System.arraycopy(now.shoes, one * MARKS, thought, 0, MARKS);
        int rest = way;
        for (int i = 0; i < n; i++) {
            goInThought(rest % COASTS);
            rest = rest / COASTS;
        }
        int apart = 0;
        for (int mark = 0; mark < MARKS; mark++) {
            apart += Math.abs(thought[mark] - now.shoes[other * MARKS + mark]);
        }
        return apart;
    }

    private void goInThought(int coast) {
        for (int mark = 0; mark < MARKS; mark++) {
            thought[mark] = Math.min(thought[mark] + dailyTakes[coast * MARKS + mark], MOST_IN_SHOE);
        }
    }

    private int allAfterDrawn(int seed, int one, int n) {
        System.arraycopy(now.shoes, one * MARKS, thought, 0, MARKS);
        int z = seed;
        for (int i = 0; i < n; i++) {
            z = z * 1103515245 + 12345;
            // Days that are drawn go by, unlike those of stays and of going.
            stayInThought(one, now.day + i, (z >>> 9) % COASTS);
        }
        return sum(thought, 0, MARKS);
    }

    private void stayInThought(int one, int day, int coast) {
        for (int mark = 0; mark < MARKS; mark++) {
            int takes = takesOf(now.kinds[one], now.numbers[one], day, coast, mark, now.rule);
            thought[mark] = Math.min(thought[mark] + takes, MOST_IN_SHOE);
        }
    }

    // ---- reading back what was told

    /** The first mark that is told otherwise than if what is varied were by. */
    private int firstOtherwise(Sheet telling, int one, int coast, int varied, int by) {
        int kind = varied == BY_KIND ? by : now.kinds[one];
        int number = varied == BY_NUMBER ? by : now.numbers[one];
        int day = varied == BY_DAY ? by : now.day;
        int where = varied == BY_COAST ? by : coast;
        int text = varied == BY_TEXT ? by : now.rule;
        for (int mark = 0; mark < telling.size && mark < MARKS; mark++) {
            if (takesOf(kind, number, day, where, mark, text) != telling.row[mark]) {
                return mark;
            }
        }
        return NONE;
    }

    private int bitsThatTell(Sheet telling, int one, int coast, int varied, int many) {
        int bits = 0;
        for (int by = 0; by < many; by++) {
            if (firstOtherwise(telling, one, coast, varied, by) == NONE) {
                bits |= 1 << by;
            }
        }
        return bits;
    }

    private int daysThatTell(Sheet telling, int one, int coast) {
        int days = 0;
        for (int day = 0; day < DAYS_ASKED; day++) {
            if (firstOtherwise(telling, one, coast, BY_DAY, day) == NONE) {
                days++;
            }
        }
        return days;
    }

    private int leastDayThatTells(Sheet telling, int one, int coast) {
        for (int day = 0; day < DAYS_ASKED; day++) {
            if (firstOtherwise(telling, one, coast, BY_DAY, day) == NONE) {
                return day;
            }
        }
        return NONE;
    }

    // ---- numbers

    private static int sum(int[] row, int from, int n) {
        int all = 0;
        for (int i = 0; i < n; i++) {
            all += row[from + i];
        }
        return all;
    }

    /** Above (part 0) or below (part 1) the line; NO, where nothing stands below it. */
    private static long lowestTerms(int above, int below, int part) {
        int divisor = below;
        int rest = above;
        // Euclid's steps on numbers below a million are far fewer than a hundred.
        for (int i = 0; i < 100 && rest != 0; i++) {
            int next = divisor % rest;
            divisor = rest;
            rest = next;
        }
        if (below == 0 || divisor == 0) {
            return NO;
        }
        return (part == 0 ? above : below) / divisor;
    }

    /** All that an image keeps. */
    private static final class World {
        int day = 0;
        int rule = 0;
        int people = 0;
        // Grains of a mark stand at MARKS times the coast (or the one), and the mark.
        final int[] coasts = new int[COASTS * MARKS];
        final int[] shoes = new int[PEOPLE * MARKS];
        final int[] kinds = new int[PEOPLE];
        final int[] numbers = new int[PEOPLE];
        final int[] out = new int[PEOPLE];

        boolean has(int one) {
            return one >= 0 && one < people;
        }

        int comes(int kind, int number) {
            if (people >= PEOPLE) {
                return FULL;
            }
            int one = people;
            kinds[one] = kind;
            numbers[one] = number;
            people++;
            return one;
        }

        /** By whole rows, so that behind the people nothing is left of those who went: who comes finds an empty shoe. */
        void becomes(World other) {
            day = other.day;
            rule = other.rule;
            people = other.people;
            System.arraycopy(other.coasts, 0, coasts, 0, coasts.length);
            System.arraycopy(other.shoes, 0, shoes, 0, shoes.length);
            System.arraycopy(other.kinds, 0, kinds, 0, kinds.length);
            System.arraycopy(other.numbers, 0, numbers, 0, numbers.length);
            System.arraycopy(other.out, 0, out, 0, out.length);
        }

        int allOnCoast(int coast) {
            return sum(coasts, coast * MARKS, MARKS);
        }

        int allInShoe(int one) {
            return sum(shoes, one * MARKS, MARKS);
        }

        int allInShoes() {
            return sum(shoes, 0, people * MARKS);
        }

        int apart(int one, int other) {
            int all = 0;
            for (int mark = 0; mark < MARKS; mark++) {
                all += Math.abs(shoes[one * MARKS + mark] - shoes[other * MARKS + mark]);
            }
            return all;
        }

        int oddest(int one) {
            int oddest = NONE;
            int most = NONE;
            for (int other = 0; other < people; other++) {
                if (other != one && apart(one, other) > most) {
                    oddest = other;
                    most = apart(one, other);
                }
            }
            return oddest;
        }

        int poorest() {
            int poorest = 0;
            for (int coast = 1; coast < COASTS; coast++) {
                if (allOnCoast(coast) < allOnCoast(poorest)) {
                    poorest = coast;
                }
            }
            return poorest;
        }
    }

    /** What the kinds of people make of what a rule tells. */
    private static final class Kinds {
        private static final int PERSON = 0, SAILOR = 1, CLERK = 2, CAPTAIN = 3, PROFESSOR = 4, CHILD = 5;

        static int takes(int kind, int v, int mark, int number) {
            return Math.min(takesUnbounded(kind, v, mark, number), 99);
        }

        private static int takesUnbounded(int kind, int v, int mark, int number) {
            switch (kind) {
                case SAILOR:
                    return 2 * v;
                case CLERK:
                    return v / 2;
                case CAPTAIN:
                    return mark == number % 6 ? 2 * v + number : 2 * v;
                case PROFESSOR:
                    return mark == 5 ? 0 : v / 2;
                case CHILD:
                    return v + mark;
                default:
                    return v;
            }
        }

        static int keeps(int kind, int v, int grains) {
            switch (kind) {
                case CLERK:
                    return grains;
                case CAPTAIN:
                    return grains * v / 100 / 2;
                case PROFESSOR:
                    return Math.max(grains - 10, 0);
                case CHILD:
                    return 0;
                default:
                    return grains * v / 100;
            }
        }

        /** Never above 999: the most is a professor's, twice 99 and 9. */
        static int sure(int kind, int v, int number) {
            switch (kind) {
                case CLERK:
                    return v + number;
                case CAPTAIN:
                    return 0;
                case PROFESSOR:
                    return 2 * (v + number);
                case CHILD:
                    return 1;
                default:
                    return v;
            }
        }

        static boolean isUnder(int kind, int above) {
            return kind == above
                || above == PERSON
                || kind == CAPTAIN && above == SAILOR
                || kind == PROFESSOR && above == CLERK;
        }
    }

    /** A text that was read: of each part steps over a stack. */
    private static final class Text {
        // A step from 0 up is a number, one from -1 down to NOT a name, the rest is done to what lies on top.
        private static final int NOT = -7, NEGATE = -8;
        private static final int OR = -9, AND = -10, LESS = -11, SAME = -12, PLUS = -13, MINUS = -14, TIMES = -15;

        private final int[] code = new int[TAPE_SIZE];
        private final int[] ends = new int[PARTS + 1];

        void becomes(int[] newCode, int[] newEnds) {
            System.arraycopy(newCode, 0, code, 0, TAPE_SIZE);
            System.arraycopy(newEnds, 0, ends, 0, PARTS + 1);
        }

        int value(int part, int[] names, int[] stack) {
            int top = 0;
            for (int i = ends[part]; i < ends[part + 1] && i < code.length; i++) {
                int step = code[i];
                if (step > NOT && top < stack.length) {
                    stack[top] = step >= 0 ? step : names[-1 - step];
                    top++;
                } else if (step <= NOT && step >= NEGATE && top > 0) {
                    stack[top - 1] = step == NEGATE ? -stack[top - 1] : stack[top - 1] == 0 ? 1 : 0;
                } else if (step < NEGATE && top > 1) {
                    top--;
                    stack[top - 1] = joined(step, stack[top - 1], stack[top]);
                }
            }
            return top > 0 ? stack[0] : 0;
        }

        private static int joined(int step, int a, int b) {
            switch (step) {
                case OR:
                    return a != 0 || b != 0 ? 1 : 0;
                case AND:
                    return a != 0 && b != 0 ? 1 : 0;
                case LESS:
                    return a < b ? 1 : 0;
                case SAME:
                    return a == b ? 1 : 0;
                case PLUS:
                    return a + b;
                case MINUS:
                    return a - b;
                default:
                    return a * b;
            }
        }
    }

    /** The tape, and how it is read as a text. */
    private static final class Reader {
        // Tokens; a sign is its own byte.
        private static final int END = 0, BROKEN = 1, NUMBER = 2, NAME = 3;
        private static final int TAKES = 4, OR = 7, AND = 8, NOT = 9;
        private static final int WORDS = 12, NAMES = 6, MOST_DIGITS = 4, MOST_OPEN = 5;
        // Levels of binding, the loosest first.
        private static final int NO_LEVEL = -1, OR_LEVEL = 0, AND_LEVEL = 1, NOT_LEVEL = 2;
        private static final int SUM_LEVEL = 3, TERM_LEVEL = 4, ONE_LEVEL = 5;

        private final int[] tape = new int[TAPE_SIZE];
        int size = 0;
        final int[] code = new int[TAPE_SIZE];
        final int[] ends = new int[PARTS + 1];
        private int steps = 0;
        private int at = 0;
        private int token = END;
        private int tokenAt = 0;
        private int value = 0;

        int add(int letter) {
            if (size >= TAPE_SIZE) {
                return FULL;
            }
            tape[size] = letter;
            size++;
            return size;
        }

        /** NONE, or the place of the fault; the steps stand in code and ends. */
        int read() {
            steps = 0;
            at = 0;
            next();
            // Reading stops at the token that can't stand there, so its place is the fault's.
            for (int part = 0; part < PARTS; part++) {
                if (token != TAKES + part) {
                    return tokenAt;
                }
                next();
                if (!readLevel(OR_LEVEL, 0) || token != ';') {
                    return tokenAt;
                }
                next();
                ends[part + 1] = steps;
            }
            return token == END ? NONE : tokenAt;
        }

        private boolean readLevel(int level, int open) {
            if (level >= ONE_LEVEL) {
                return readOne(open);
            }
            if (level == NOT_LEVEL && token == NOT) {
                return readNot(open);
            }
            if (!readLevel(level + 1, open)) {
                return false;
            }
            // < and = join two sums at most, the others as many as there are.
            int most = level == NOT_LEVEL ? 1 : TAPE_SIZE;
            for (int i = 0; i < most && levelOf(token) == level; i++) {
                int step = stepOf(token);
                next();
                if (!readLevel(level + 1, open)) {
                    return false;
                }
                put(step);
            }
            return true;
        }

        private boolean readNot(int open) {
            if (open >= MOST_OPEN) {
                return false;
            }
            next();
            if (!readLevel(NOT_LEVEL, open + 1)) {
                return false;
            }
            put(Text.NOT);
            return true;
        }

        private boolean readOne(int open) {
            int sign = token;
            if (sign == NUMBER || sign == NAME) {
                put(sign == NUMBER ? value : -1 - value);
                next();
                return true;
            }
            if (sign != '-' && sign != '(' || open >= MOST_OPEN) {
                return false;
            }
            next();
            if (sign == '-') {
                if (!readOne(open + 1)) {
                    return false;
                }
                put(Text.NEGATE);
                return true;
            }
            if (!readLevel(OR_LEVEL, open + 1) || token != ')') {
                return false;
            }
            next();
            return true;
        }

        private static int levelOf(int token) {
            switch (token) {
                case OR:
                    return OR_LEVEL;
                case AND:
                    return AND_LEVEL;
                case '<':
                case '=':
                    return NOT_LEVEL;
                case '+':
                case '-':
                    return SUM_LEVEL;
                case '*':
                    return TERM_LEVEL;
                default:
                    return NO_LEVEL;
            }
        }

        private static int stepOf(int token) {
            switch (token) {
                case OR:
                    return Text.OR;
                case AND:
                    return Text.AND;
                case '<':
                    return Text.LESS;
                case '=':
                    return Text.SAME;
                case '+':
                    return Text.PLUS;
                case '-':
                    return Text.MINUS;
                default:
                    return Text.TIMES;
            }
        }

        /** No token makes more than one step, so the steps never outgrow the tape. */
        private void put(int step) {
            if (steps < TAPE_SIZE) {
                code[steps] = step;
                steps++;
            }
        }

        private void next() {
            while (at < size && (tape[at] == ' ' || tape[at] == '\n')) {
                at++;
            }
            tokenAt = at;
            if (at >= size) {
                token = END;
            } else if (isIn(at, 'a', 'z')) {
                nextWord();
            } else if (isIn(at, '0', '9')) {
                nextNumber();
            } else {
                token = isSign(tape[at]) ? tape[at] : BROKEN;
                at++;
            }
        }

        private void nextWord() {
            while (at < size && isIn(at, 'a', 'z')) {
                at++;
            }
            int found = WORDS;
            for (int i = 0; i < WORDS; i++) {
                if (isToken(wordOf(i))) {
                    found = i;
                }
            }
            if (found < NAMES) {
                token = NAME;
                value = found;
            } else {
                token = found < WORDS ? TAKES + found - NAMES : BROKEN;
            }
        }

        private void nextNumber() {
            value = 0;
            while (at < size && isIn(at, '0', '9')) {
                // Of a number that is too long the value doesn't matter.
                value = value * 10 + tape[at] - '0';
                at++;
            }
            token = at - tokenAt > MOST_DIGITS ? BROKEN : NUMBER;
        }

        private boolean isIn(int place, int least, int most) {
            return place < size && tape[place] >= least && tape[place] <= most;
        }

        private static boolean isSign(int letter) {
            return letter >= '(' && letter <= '+' || letter == '-' || letter >= ';' && letter <= '=';
        }

        /** Whether the token, which ends ahead of at, is this word. */
        private boolean isToken(String word) {
            if (word.length() != at - tokenAt) {
                return false;
            }
            for (int i = 0; i < word.length(); i++) {
                if (word.charAt(i) != tape[tokenAt + i]) {
                    return false;
                }
            }
            return true;
        }

        /** The names, then the keys in the order of their tokens. */
        private static String wordOf(int i) {
            switch (i) {
                case 0:
                    return "grains";
                case 1:
                    return "mark";
                case 2:
                    return "number";
                case 3:
                    return "day";
                case 4:
                    return "coast";
                case 5:
                    return "shoe";
                case 6:
                    return "takes";
                case 7:
                    return "keeps";
                case 8:
                    return "sure";
                case 9:
                    return "or";
                case 10:
                    return "and";
                default:
                    return "not";
            }
        }
    }

    /** A row of numbers of a sort, or missing. */
    private static final class Sheet {
        static final int MISSING = -1, BYTES = 0, SHORTS = 1, INTS = 2;

        int sort = MISSING;
        int size = 0;
        final int[] row = new int[SHEET_SIZE];

        static boolean isSort(int sort) {
            return sort >= BYTES && sort <= INTS;
        }

        boolean isMissing() {
            return sort == MISSING;
        }

        boolean has(int i) {
            return i >= 0 && i < size;
        }

        boolean hasRun(int from, int n) {
            return from >= 0 && n >= 0 && from <= size && n <= size - from;
        }

        void becomes(int newSort, int newSize) {
            sort = newSort;
            size = newSize;
            for (int i = 0; i < SHEET_SIZE; i++) {
                row[i] = 0;
            }
        }

        void put(int i, int v) {
            if (sort == BYTES) {
                row[i] = (byte) v;
            } else {
                row[i] = sort == SHORTS ? (short) v : v;
            }
        }

        int all() {
            return sum(row, 0, size);
        }
    }

    /** All stays by which just what is wanted would be in a shoe. */
    private static final class Fit {
        int count = 0;
        int first = NONE;
        int firstDays = NONE;
        int must = 0;
        int may = 0;
        final int[] onCoast = new int[COASTS];
        private final int[] days = new int[COASTS];
        private final int[] shoe = new int[MARKS];

        void search(int[] dailyTakes, int[] wanted) {
            clear();
            for (int i = 0; i < ALL_STAYS; i++) {
                if (isInShoe(wanted)) {
                    found();
                }
                stepOn(dailyTakes);
            }
        }

        private void clear() {
            count = 0;
            first = NONE;
            firstDays = NONE;
            must = 0;
            may = 0;
            for (int i = 0; i < COASTS; i++) {
                onCoast[i] = 0;
                days[i] = 0;
            }
            for (int i = 0; i < MARKS; i++) {
                shoe[i] = 0;
            }
        }

        private boolean isInShoe(int[] wanted) {
            for (int mark = 0; mark < MARKS; mark++) {
                if (shoe[mark] != wanted[mark]) {
                    return false;
                }
            }
            return true;
        }

        private void found() {
            int number = 0;
            int all = 0;
            int bits = 0;
            for (int coast = 0; coast < COASTS; coast++) {
                number = number * 10 + days[coast];
                all += days[coast];
                if (days[coast] > 0) {
                    bits |= 1 << coast;
                    onCoast[coast]++;
                }
            }
            must = count == 0 ? bits : must & bits;
            may |= bits;
            // Stays come as growing numbers, so of as many days the first stands.
            if (count == 0 || all < firstDays) {
                first = number;
                firstDays = all;
            }
            count++;
        }

        /** To the next stays as a number; what is in the shoe goes along, day by day. */
        private void stepOn(int[] dailyTakes) {
            int coast = COASTS - 1;
            while (coast >= 0 && days[coast] == MOST_DAYS_ON_COAST) {
                takeUp(dailyTakes, coast, -MOST_DAYS_ON_COAST);
                coast--;
            }
            if (coast >= 0) {
                takeUp(dailyTakes, coast, 1);
            }
        }

        private void takeUp(int[] dailyTakes, int coast, int more) {
            days[coast] += more;
            for (int mark = 0; mark < MARKS; mark++) {
                shoe[mark] += more * dailyTakes[coast * MARKS + mark];
            }
        }
    }
}
