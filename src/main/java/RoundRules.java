import java.util.Arrays;

/**
 * Relations of twos of four things: facts that are told, rules by which facts
 * follow from facts, in which round each is born and how little it costs to
 * follow it. The document DOC.md tells what each call answers.
 *
 * <p>All rows are made in the constructors and used again, so that no call
 * makes an object.
 */
public final class RoundRules {
    public static final int UNKNOWN = -1, OUTSIDE = -2, STATE = -3, FULL = -4, NONE = -9;
    public static final long LOST = Long.MIN_VALUE;

    private static final int NULL = 1, CAST = 2, INDEX = 3, SIZE = 4;
    private static final int SHEETS = 4, LANES = 3, CELLS = 60;
    private static final int THINGS = 4, TWOS = 16, RELATIONS = 4, RULES = 5, FACTS = 64;
    /** How many facts a text may tell; calls may tell more. */
    private static final int MOST_TOLD = 5;
    private static final int BULKY = 1, DOUBLE = 2, KINDS = 3;
    private static final int TURNED = 1, JOINED = 2, BUT_NOT = 3, FORMS = 4;
    private static final int READINGS = 8, MOST_READ = 1000;
    private static final int ACTS = 20, FORM_ACT = 10, OF_RELATION = 10;

    private final Sheet[] sheets;
    private final World now;
    /** Where texts, days and other kinds and forms are tried, so that a refusal leaves all as it is. */
    private final World draft;
    private final TextReader reader;
    private final int[] readFact;
    private final int[] readCheap;
    private int readingCount;
    private int traceLeft;
    private int latestFault;

    public RoundRules() {
        sheets = new Sheet[SHEETS];
        for (int k = 0; k < SHEETS; k++) {
            sheets[k] = new Sheet();
        }
        now = new World();
        draft = new World();
        reader = new TextReader();
        readFact = new int[READINGS];
        readCheap = new int[READINGS];
    }

    // ---- 1 the program

    public int program(int sheet, int lane, int i, int n) {
        latestFault = 0;
        if (!isSheet(sheet)) {
            return UNKNOWN;
        }
        if (!isLane(lane)) {
            return OUTSIDE;
        }
        Sheet row = sheets[sheet];
        int found = row.faultAs(lane);
        if (found == 0 && n < 0) {
            found = SIZE;
        }
        if (found == 0 && !row.has(i, n)) {
            found = INDEX;
        }
        return found == 0 ? programOf(row, i, n) : failed(found);
    }

    private int programOf(Sheet row, int i, int n) {
        if (!reader.reads(row, i, n, draft.program)) {
            return -100 - reader.at;
        }
        if (!draft.layers.find()) {
            return -200 - draft.layers.goingRound();
        }
        now.take(draft.program);
        readingCount = 0;
        return now.program.rules;
    }

    public int ofRule(int r, int what) {
        if (!isRule(r)) {
            return UNKNOWN;
        }
        Program p = now.program;
        switch (what) {
            case 0: return p.kindOf[r];
            case 1: return p.priceOf[r];
            case 2: return p.cost(r);
            case 3: return p.formOf[r];
            case 4: return p.headOf[r];
            case 5: return p.bodyOf[r];
            case 6: return p.hasOther(r) ? p.otherOf[r] : NONE;
            default: return OUTSIDE;
        }
    }

    public int ofRelation(int q, int what) {
        if (!isRelation(q)) {
            return UNKNOWN;
        }
        now.settle();
        switch (what) {
            case 0: return now.layers.layerOf[q];
            case 1: return Integer.bitCount(now.rounds.holds[q]);
            case 2: return Integer.bitCount(now.program.told[q]);
            case 3: return now.program.rulesOfHead(q);
            default: return OUTSIDE;
        }
    }

    public int form(int r, int form) {
        if (!isRule(r)) {
            return UNKNOWN;
        }
        if (!now.program.fits(r, form)) {
            return OUTSIDE;
        }
        int had = now.program.formOf[r];
        return now.reforms(r, form) ? had : STATE;
    }

    // ---- 2 facts

    public int tell(int q, int x, int y) {
        if (!isRelation(q)) {
            return UNKNOWN;
        }
        if (!isThing(x) || !isThing(y)) {
            return OUTSIDE;
        }
        return now.toggle(q, x, y) ? 1 : 0;
    }

    public int ofFact(int q, int x, int y, int what) {
        if (!isRelation(q)) {
            return UNKNOWN;
        }
        if (!isThing(x) || !isThing(y)) {
            return OUTSIDE;
        }
        now.settle();
        int fact = factOf(q, x, y);
        switch (what) {
            case 0: return now.rounds.isHeld(fact) ? 1 : 0;
            case 1: return now.program.isTold(fact) ? 1 : 0;
            case 2: return now.rounds.bornIn[fact];
            case 3: return now.costs.cheapOf(fact);
            case 4: return now.costs.lastRule(fact);
            case 5: return now.costs.middle(fact);
            default: return OUTSIDE;
        }
    }

    public int day(int sheet, int lane, int i, int n, int what) {
        latestFault = 0;
        if (!isSheet(sheet)) {
            return UNKNOWN;
        }
        if (!isLane(lane) || n < 0 || n > ACTS || !isAskedOfDay(what)) {
            return OUTSIDE;
        }
        Sheet row = sheets[sheet];
        int found = row.faultAs(lane);
        if (found == 0 && !row.has(i, 3 * n)) {
            found = INDEX;
        }
        if (found != 0) {
            return failed(found);
        }
        if (!now.program.isThere()) {
            return STATE;
        }
        if (!areActs(row, i, n)) {
            return OUTSIDE;
        }
        int wrong = firstWrong(row, i, n);
        if (what == 1) {
            return wrong;
        }
        if (wrong != NONE) {
            return -100 - wrong;
        }
        draft.settle();
        return ofDraft(what);
    }

    private static boolean isAskedOfDay(int what) {
        return what >= 0 && what <= 4 || what >= OF_RELATION && what < OF_RELATION + RELATIONS;
    }

    private static boolean areActs(Sheet row, int i, int n) {
        for (int k = 0; k < n; k++) {
            int first = row.cells[i + 3 * k];
            boolean ofFact = first >= 0 && first < RELATIONS;
            boolean ofRule = first >= FORM_ACT && first < FORM_ACT + RULES;
            if (!ofFact && !ofRule) {
                return false;
            }
        }
        return true;
    }

    private int ofDraft(int what) {
        switch (what) {
            case 0: return draft.rounds.held();
            case 2: return draft.rounds.count;
            case 3: return draft.costs.greatest();
            case 4: return draft.program.toldCount();
            default: return heldInDraft(what - OF_RELATION);
        }
    }

    private int heldInDraft(int q) {
        return q >= 0 && q < draft.program.relations ? Integer.bitCount(draft.rounds.holds[q]) : NONE;
    }

    private int firstWrong(Sheet row, int i, int n) {
        draft.take(now.program);
        for (int k = 0; k < n; k++) {
            int at = i + 3 * k;
            if (!acts(row.cells[at], row.cells[at + 1], row.cells[at + 2])) {
                return k;
            }
        }
        return NONE;
    }

    private boolean acts(int first, int second, int third) {
        if (first >= FORM_ACT) {
            int r = first - FORM_ACT;
            return r < draft.program.rules && draft.program.fits(r, second) && draft.reforms(r, second);
        }
        if (first < 0 || first >= draft.program.relations || !isThing(second) || !isThing(third)) {
            return false;
        }
        draft.toggle(first, second, third);
        return true;
    }

    // ---- 3 rounds

    public int rounds() {
        if (!now.program.isThere()) {
            return STATE;
        }
        now.settle();
        return now.rounds.count;
    }

    public int born(int k) {
        if (k < 0) {
            return OUTSIDE;
        }
        if (!now.program.isThere()) {
            return STATE;
        }
        now.settle();
        return now.rounds.bornAt(k);
    }

    public int ranked(int q, int k) {
        if (!isRelation(q)) {
            return UNKNOWN;
        }
        if (k < 0) {
            return OUTSIDE;
        }
        now.settle();
        return now.costs.rankedFact(q, k);
    }

    public int settled(int k) {
        if (k < 0) {
            return OUTSIDE;
        }
        if (!now.program.isThere()) {
            return STATE;
        }
        now.settle();
        return now.costs.settledFact(k);
    }

    public int demands(int q, int x) {
        if (!isRelation(q)) {
            return UNKNOWN;
        }
        if (!isThing(x)) {
            return OUTSIDE;
        }
        now.settle();
        return now.demandsOf(q, x);
    }

    // ---- 4 what it costs

    public int reading(int q, int x, int y, int c) {
        if (!isRelation(q)) {
            return UNKNOWN;
        }
        boolean isCost = c >= 0 && c <= MOST_READ || c == NONE;
        if (!isThing(x) || !isThing(y) || !isCost) {
            return OUTSIDE;
        }
        if (readingCount >= READINGS) {
            return FULL;
        }
        int number = readingCount;
        readFact[number] = factOf(q, x, y);
        readCheap[number] = c;
        readingCount = number + 1;
        return number;
    }

    public int back(int n) {
        if (n < 0 || n > readingCount) {
            return OUTSIDE;
        }
        readingCount -= n;
        return readingCount;
    }

    public int kinds(int r) {
        if (!isRule(r)) {
            return UNKNOWN;
        }
        int set = 0;
        for (int kind = 0; kind < KINDS; kind++) {
            draft.take(now.program);
            draft.program.kindOf[r] = kind;
            if (readingCount > 0) {
                draft.settle();
            }
            if (areReadingsSo()) {
                set |= 1 << kind;
            }
        }
        return set;
    }

    public int forms(int r) {
        if (!isRule(r)) {
            return UNKNOWN;
        }
        int set = 0;
        for (int form = 0; form < FORMS; form++) {
            draft.take(now.program);
            if (!draft.program.fits(r, form) || !draft.reforms(r, form)) {
                continue;
            }
            if (readingCount > 0) {
                draft.settle();
            }
            if (areReadingsSo()) {
                set |= 1 << form;
            }
        }
        return set;
    }

    /** Of the draft, which is settled if there are any readings. */
    private boolean areReadingsSo() {
        for (int k = 0; k < readingCount; k++) {
            if (draft.costs.cheapOf(readFact[k]) != readCheap[k]) {
                return false;
            }
        }
        return true;
    }

    public long odds(int q, int which) {
        if (!isRelation(q) || which < 0 || which > 1) {
            return LOST;
        }
        now.settle();
        int upper = Integer.bitCount(now.rounds.holds[q]);
        int lower = TWOS;
        // The lower number is a power of two, so only halving can bring least terms.
        for (int half = 0; half < 4 && (upper & 1) == 0; half++) {
            upper >>= 1;
            lower >>= 1;
        }
        return which == 0 ? upper : lower;
    }

    // ---- 5 sheets, parts

    public int sheet(int k, int lane, int n) {
        latestFault = 0;
        if (!isSheet(k)) {
            return UNKNOWN;
        }
        if (!isLane(lane) || n > CELLS) {
            return OUTSIDE;
        }
        if (n < 0) {
            return failed(SIZE);
        }
        sheets[k].renew(lane, n);
        return 1;
    }

    public int lose(int k) {
        if (!isSheet(k)) {
            return UNKNOWN;
        }
        return sheets[k].clear() ? 1 : 0;
    }

    public int put(int k, int i, int v) {
        latestFault = 0;
        if (!isSheet(k)) {
            return UNKNOWN;
        }
        Sheet row = sheets[k];
        if (!row.isThere) {
            return failed(NULL);
        }
        if (!row.hasCell(i)) {
            return failed(INDEX);
        }
        row.cells[i] = row.cut(v);
        return 1;
    }

    public long cell(int k, int i, int lane) {
        latestFault = 0;
        if (!isSheet(k) || !isLane(lane)) {
            return LOST;
        }
        Sheet row = sheets[k];
        int found = row.faultAs(lane);
        if (found == 0 && !row.hasCell(i)) {
            found = INDEX;
        }
        if (found != 0) {
            latestFault = found;
            return LOST;
        }
        return row.cells[i];
    }

    public int copy(int k, int i, int other, int j, int n) {
        latestFault = 0;
        if (!isSheet(k) || !isSheet(other)) {
            return UNKNOWN;
        }
        Sheet from = sheets[k];
        Sheet to = sheets[other];
        if (!from.isThere || !to.isThere) {
            return failed(NULL);
        }
        if (from.lane != to.lane) {
            return failed(CAST);
        }
        if (!from.has(i, n) || !to.has(j, n)) {
            return failed(INDEX);
        }
        System.arraycopy(from.cells, i, to.cells, j, n);
        return n;
    }

    public int speak(int r) {
        if (!isRule(r)) {
            return UNKNOWN;
        }
        switch (now.program.kindOf[r]) {
            case DOUBLE: return doubleTelling(r);
            case BULKY: return bulkyTelling(r);
            default: return plainTelling(r);
        }
    }

    private int plainTelling(int r) {
        leave(1);
        return now.program.priceOf[r];
    }

    private int bulkyTelling(int r) {
        leave(2);
        return plainTelling(r) + 100;
    }

    private int doubleTelling(int r) {
        leave(3);
        int bulky = bulkyTelling(r);
        return bulky + plainTelling(r);
    }

    public int quote(int r) {
        if (!isRule(r)) {
            return UNKNOWN;
        }
        if (now.program.kindOf[r] == DOUBLE) {
            leave(5);
            return 40;
        }
        leave(4);
        return now.program.headOf[r];
    }

    private void leave(int number) {
        traceLeft = 31 * traceLeft + number;
    }

    public int as(int r, int kind) {
        latestFault = 0;
        if (!isRule(r)) {
            return UNKNOWN;
        }
        if (kind < 0 || kind >= KINDS) {
            return OUTSIDE;
        }
        // Each kind is also all kinds of lesser number.
        return now.program.kindOf[r] >= kind ? 1 : failed(CAST);
    }

    public int trace() {
        return traceLeft;
    }

    public int fault() {
        return latestFault;
    }

    public int many(int what) {
        switch (what) {
            case 0: return now.program.relations;
            case 1: return now.program.rules;
            case 2: now.settle();
                    return now.rounds.held();
            case 3: return now.program.toldCount();
            case 4: return readingCount;
            default: return OUTSIDE;
        }
    }

    private int failed(int found) {
        latestFault = found;
        return -10 - found;
    }

    private boolean isRelation(int q) {
        return q >= 0 && q < now.program.relations;
    }

    private boolean isRule(int r) {
        return r >= 0 && r < now.program.rules;
    }

    private static boolean isSheet(int k) {
        return k >= 0 && k < SHEETS;
    }

    private static boolean isLane(int lane) {
        return lane >= 0 && lane < LANES;
    }

    private static boolean isThing(int x) {
        return x >= 0 && x < THINGS;
    }

    private static int factOf(int q, int x, int y) {
        return TWOS * q + THINGS * x + y;
    }

    private static int turnedAbout(int two) {
        return two % THINGS * THINGS + two / THINGS;
    }

    /** The things y of all (x, y) in a set of twos, as bits. */
    private static int rowOf(int twos, int x) {
        return twos >> THINGS * x & 15;
    }

    /** A row of up to sixty numbers of a lane, or nothing. */
    private static final class Sheet {
        final int[] cells = new int[CELLS];
        boolean isThere;
        int lane;
        int size;

        void renew(int newLane, int newSize) {
            Arrays.fill(cells, 0);
            isThere = true;
            lane = newLane;
            size = newSize;
        }

        boolean clear() {
            boolean had = isThere;
            isThere = false;
            size = 0;
            return had;
        }

        /** The fault of taking this as a row of a lane; nothing can be taken so, but has no cells. */
        int faultAs(int wanted) {
            if (!isThere) {
                return NULL;
            }
            return lane == wanted ? 0 : CAST;
        }

        boolean hasCell(int i) {
            return i >= 0 && i < size;
        }

        boolean has(int i, int n) {
            return i >= 0 && i <= size && n >= 0 && n <= size - i;
        }

        int cut(int v) {
            switch (lane) {
                case 0: return (byte) v;
                case 1: return (short) v;
                default: return v;
            }
        }
    }

    /** What a text tells: rules by number, and what is told of each relation as a set of twos. */
    private static final class Program {
        final int[] kindOf = new int[RULES];
        final int[] priceOf = new int[RULES];
        final int[] formOf = new int[RULES];
        final int[] headOf = new int[RULES];
        final int[] bodyOf = new int[RULES];
        final int[] otherOf = new int[RULES];
        final int[] told = new int[RELATIONS];
        int relations;
        int rules;

        void clear() {
            Arrays.fill(told, 0);
            relations = 0;
            rules = 0;
        }

        void take(Program p) {
            System.arraycopy(p.kindOf, 0, kindOf, 0, RULES);
            System.arraycopy(p.priceOf, 0, priceOf, 0, RULES);
            System.arraycopy(p.formOf, 0, formOf, 0, RULES);
            System.arraycopy(p.headOf, 0, headOf, 0, RULES);
            System.arraycopy(p.bodyOf, 0, bodyOf, 0, RULES);
            System.arraycopy(p.otherOf, 0, otherOf, 0, RULES);
            System.arraycopy(p.told, 0, told, 0, RELATIONS);
            relations = p.relations;
            rules = p.rules;
        }

        boolean isThere() {
            return relations > 0;
        }

        boolean hasOther(int r) {
            return formOf[r] >= JOINED;
        }

        /** Whether a form has an OTHER just as the rule has one. */
        boolean fits(int r, int form) {
            return form >= 0 && form < FORMS && (form >= JOINED) == hasOther(r);
        }

        int cost(int r) {
            switch (kindOf[r]) {
                case BULKY: return priceOf[r] + 1;
                case DOUBLE: return 2 * priceOf[r];
                default: return priceOf[r];
            }
        }

        int rulesOfHead(int q) {
            int set = 0;
            for (int r = 0; r < rules; r++) {
                if (headOf[r] == q) {
                    set |= 1 << r;
                }
            }
            return set;
        }

        boolean isTold(int fact) {
            return (told[fact / TWOS] >> fact % TWOS & 1) != 0;
        }

        int toldCount() {
            int count = 0;
            for (int q = 0; q < relations; q++) {
                count += Integer.bitCount(told[q]);
            }
            return count;
        }
    }

    /** Reads a text into a program; at what is wrong it stays for good, so that place is the first fault. */
    private static final class TextReader {
        final int[] codes = new int[CELLS];
        int count;
        int at;
        boolean isWrong;

        /** The row has these cells. */
        boolean reads(Sheet row, int i, int n, Program p) {
            System.arraycopy(row.cells, i, codes, 0, n);
            count = n;
            at = 0;
            isWrong = false;
            p.clear();
            letter("d");
            p.relations = digit(1, RELATIONS);
            for (int k = 0; k < RULES && isNext(';'); k++) {
                readRule(p);
            }
            for (int k = 0; k < MOST_TOLD && isNext(','); k++) {
                readTold(p);
            }
            return !isWrong && at == count;
        }

        private void readRule(Program p) {
            at++;
            int r = p.rules;
            p.kindOf[r] = letter("pbw");
            p.priceOf[r] = digit(1, 9);
            p.formOf[r] = letter("ctjn");
            p.headOf[r] = digit(0, p.relations - 1);
            p.bodyOf[r] = digit(0, p.relations - 1);
            p.otherOf[r] = p.hasOther(r) ? digit(0, p.relations - 1) : 0;
            p.rules = r + 1;
        }

        private void readTold(Program p) {
            at++;
            int q = digit(0, p.relations - 1);
            int x = digit(0, THINGS - 1);
            int y = digit(0, THINGS - 1);
            if (isWrong) {
                return;
            }
            int bit = 1 << THINGS * x + y;
            if ((p.told[q] & bit) != 0) {
                at--;
                isWrong = true;
                return;
            }
            p.told[q] |= bit;
        }

        private boolean isNext(char sign) {
            return !isWrong && at < count && codes[at] == sign;
        }

        /** Which of some signs comes next. */
        private int letter(String signs) {
            for (int which = 0; which < signs.length(); which++) {
                if (isNext(signs.charAt(which))) {
                    at++;
                    return which;
                }
            }
            isWrong = true;
            return 0;
        }

        private int digit(int least, int most) {
            int value = isWrong || at >= count ? -1 : codes[at] - '0';
            if (value < least || value > most) {
                isWrong = true;
                return 0;
            }
            at++;
            return value;
        }
    }

    /** The least layers of a program's relations, or that there are none. */
    private static final class Layers {
        final Program program;
        final int[] layerOf = new int[RELATIONS];
        final int[] reach = new int[RELATIONS];

        Layers(Program p) {
            program = p;
        }

        /** Four relations settle within three passes, unless they go round. */
        boolean find() {
            Arrays.fill(layerOf, 0);
            for (int pass = 0; pass < RELATIONS; pass++) {
                if (!isRaised()) {
                    return true;
                }
            }
            return false;
        }

        private boolean isRaised() {
            boolean raised = false;
            for (int r = 0; r < program.rules; r++) {
                int least = leastOfHead(r);
                int head = program.headOf[r];
                if (layerOf[head] < least) {
                    layerOf[head] = least;
                    raised = true;
                }
            }
            return raised;
        }

        private int leastOfHead(int r) {
            int least = layerOf[program.bodyOf[r]];
            if (!program.hasOther(r)) {
                return least;
            }
            int other = layerOf[program.otherOf[r]];
            return Math.max(least, program.formOf[r] == BUT_NOT ? other + 1 : other);
        }

        /** The least relation from which rules lead back to it past an OTHER of form n. */
        int goingRound() {
            findReach();
            for (int q = 0; q < program.relations; q++) {
                for (int r = 0; r < program.rules; r++) {
                    if (program.formOf[r] == BUT_NOT && leads(q, program.otherOf[r])
                            && leads(program.headOf[r], q)) {
                        return q;
                    }
                }
            }
            return 0;
        }

        private boolean leads(int q, int to) {
            return (reach[q] >> to & 1) != 0;
        }

        private void findReach() {
            for (int q = 0; q < RELATIONS; q++) {
                reach[q] = 1 << q;
            }
            for (int pass = 0; pass < RELATIONS; pass++) {
                for (int q = 0; q < program.relations; q++) {
                    for (int r = 0; r < program.rules; r++) {
                        boolean byOther = program.hasOther(r) && leads(q, program.otherOf[r]);
                        if (byOther || leads(q, program.bodyOf[r])) {
                            reach[q] |= 1 << program.headOf[r];
                        }
                    }
                }
            }
        }
    }

    /** Which facts hold, and in which round each is born. */
    private static final class Rounds {
        final Program program;
        final Layers layers;
        final int[] holds = new int[RELATIONS];
        final int[] fresh = new int[RELATIONS];
        final int[] bornIn = new int[FACTS];
        int count;

        Rounds(Program p, Layers l) {
            program = p;
            layers = l;
        }

        void run() {
            Arrays.fill(bornIn, NONE);
            Arrays.fill(holds, 0);
            count = 0;
            for (int q = 0; q < program.relations; q++) {
                hold(q, program.told[q], 0);
            }
            for (int layer = 0; layer < RELATIONS; layer++) {
                boolean more = true;
                // Each round but a layer's last brings at least one of all facts.
                for (int round = 0; round <= FACTS && more; round++) {
                    more = isRoundIn(layer);
                }
            }
        }

        private void hold(int q, int twos, int round) {
            holds[q] |= twos;
            for (int two = 0; two < TWOS; two++) {
                if ((twos >> two & 1) != 0) {
                    bornIn[TWOS * q + two] = round;
                }
            }
        }

        private boolean isRoundIn(int layer) {
            Arrays.fill(fresh, 0);
            for (int r = 0; r < program.rules; r++) {
                int head = program.headOf[r];
                if (layers.layerOf[head] == layer) {
                    fresh[head] |= followBy(r) & ~holds[head];
                }
            }
            int any = 0;
            for (int q = 0; q < program.relations; q++) {
                any |= fresh[q];
            }
            if (any == 0) {
                return false;
            }
            count++;
            for (int q = 0; q < program.relations; q++) {
                hold(q, fresh[q], count);
            }
            return true;
        }

        private int followBy(int r) {
            int body = holds[program.bodyOf[r]];
            int other = holds[program.otherOf[r]];
            switch (program.formOf[r]) {
                case TURNED: return turnedSet(body);
                case JOINED: return joinedSet(body, other);
                case BUT_NOT: return body & ~other;
                default: return body;
            }
        }

        private static int turnedSet(int twos) {
            int set = 0;
            for (int two = 0; two < TWOS; two++) {
                if ((twos >> two & 1) != 0) {
                    set |= 1 << turnedAbout(two);
                }
            }
            return set;
        }

        private static int joinedSet(int body, int other) {
            int set = 0;
            for (int two = 0; two < TWOS; two++) {
                if ((body >> two & 1) != 0) {
                    set |= rowOf(other, two % THINGS) << THINGS * (two / THINGS);
                }
            }
            return set;
        }

        boolean isHeld(int fact) {
            return (holds[fact / TWOS] >> fact % TWOS & 1) != 0;
        }

        int held() {
            int sum = 0;
            for (int q = 0; q < RELATIONS; q++) {
                sum += Integer.bitCount(holds[q]);
            }
            return sum;
        }

        int bornAt(int round) {
            int sum = 0;
            for (int fact = 0; fact < FACTS; fact++) {
                if (bornIn[fact] == round) {
                    sum++;
                }
            }
            return sum;
        }
    }

    /** How little each fact costs, by which rule, and in which order facts are settled. */
    private static final class Costs {
        /**
         * Above what any fact costs, and two of it and a rule's are still a long. In the order of their costs a
         * fact is at most 18 above the two ahead of it together, or (joined of one fact twice, which only sixteen
         * facts (x, x) can be) above twice the one ahead: 64 facts stay below 2 to the 55th.
         */
        static final long FAR = 1L << 60;

        final Program program;
        final Layers layers;
        final Rounds rounds;
        final long[] cheap = new long[FACTS];
        final int[] order = new int[FACTS];
        int ordered;
        boolean isInOrder;

        Costs(Program p, Layers l, Rounds known) {
            program = p;
            layers = l;
            rounds = known;
        }

        void run() {
            for (int fact = 0; fact < FACTS; fact++) {
                cheap[fact] = program.isTold(fact) ? 0 : FAR;
            }
            boolean better = true;
            // A least way never goes through the same fact twice, so it is at most as deep as there are facts.
            for (int pass = 0; pass <= FACTS && better; pass++) {
                better = isCheapened();
            }
            isInOrder = false;
        }

        private boolean isCheapened() {
            boolean better = false;
            for (int r = 0; r < program.rules; r++) {
                int head = program.headOf[r];
                int open = rounds.holds[head] & ~program.told[head];
                for (int two = 0; two < TWOS; two++) {
                    long way = (open >> two & 1) == 0 ? FAR : wayBy(r, two);
                    if (way < cheap[TWOS * head + two]) {
                        cheap[TWOS * head + two] = way;
                        better = true;
                    }
                }
            }
            return better;
        }

        /** What HEAD of a two costs by a rule; FAR or above, if it does not follow by it. */
        private long wayBy(int r, int two) {
            int form = program.formOf[r];
            if (form == JOINED) {
                long least = FAR;
                for (int z = 0; z < THINGS; z++) {
                    least = Math.min(least, partsThrough(r, two, z));
                }
                return program.cost(r) + least;
            }
            if (form == BUT_NOT && rounds.isHeld(TWOS * program.otherOf[r] + two)) {
                return FAR;
            }
            int from = form == TURNED ? turnedAbout(two) : two;
            return program.cost(r) + cheap[TWOS * program.bodyOf[r] + from];
        }

        /** What BODY (x, z) and OTHER (z, y) of a two (x, y) cost together. */
        private long partsThrough(int r, int two, int z) {
            int body = TWOS * program.bodyOf[r] + two / THINGS * THINGS + z;
            int other = TWOS * program.otherOf[r] + THINGS * z + two % THINGS;
            return cheap[body] + cheap[other];
        }

        int cheapOf(int fact) {
            return rounds.isHeld(fact) ? (int) cheap[fact] : NONE;
        }

        int lastRule(int fact) {
            if (!rounds.isHeld(fact) || program.isTold(fact)) {
                return NONE;
            }
            for (int r = 0; r < program.rules; r++) {
                if (program.headOf[r] == fact / TWOS && wayBy(r, fact % TWOS) == cheap[fact]) {
                    return r;
                }
            }
            return NONE;
        }

        int middle(int fact) {
            int last = lastRule(fact);
            if (last == NONE || program.formOf[last] != JOINED) {
                return NONE;
            }
            long parts = cheap[fact] - program.cost(last);
            for (int z = 0; z < THINGS; z++) {
                if (partsThrough(last, fact % TWOS, z) == parts) {
                    return z;
                }
            }
            return NONE;
        }

        int greatest() {
            long most = 0;
            for (int fact = 0; fact < FACTS; fact++) {
                if (rounds.isHeld(fact)) {
                    most = Math.max(most, cheap[fact]);
                }
            }
            return (int) most;
        }

        private void putInOrder() {
            if (isInOrder) {
                return;
            }
            isInOrder = true;
            ordered = 0;
            for (int fact = 0; fact < FACTS; fact++) {
                if (rounds.isHeld(fact)) {
                    int at = ordered;
                    for (; at > 0 && comesAhead(fact, order[at - 1]); at--) {
                        order[at] = order[at - 1];
                    }
                    order[at] = fact;
                    ordered++;
                }
            }
        }

        /** Of facts alike the one of lesser number is already ahead. */
        private boolean comesAhead(int fact, int than) {
            int mine = layers.layerOf[fact / TWOS];
            int its = layers.layerOf[than / TWOS];
            return mine < its || mine == its && cheap[fact] < cheap[than];
        }

        int settledFact(int k) {
            putInOrder();
            return k < ordered ? order[k] : NONE;
        }

        /** All facts of a relation are of one layer, so the order of all is theirs too. */
        int rankedFact(int q, int k) {
            putInOrder();
            int before = 0;
            for (int at = 0; at < ordered; at++) {
                if (order[at] / TWOS == q) {
                    if (before == k) {
                        return order[at] % TWOS;
                    }
                    before++;
                }
            }
            return NONE;
        }
    }

    /** A program with all that follows from it, found when it is first asked for. */
    private static final class World {
        final Program program;
        final Layers layers;
        final Rounds rounds;
        final Costs costs;
        boolean isSettled;

        World() {
            Program p = new Program();
            Layers l = new Layers(p);
            Rounds known = new Rounds(p, l);
            costs = new Costs(p, l, known);
            rounds = known;
            layers = l;
            program = p;
        }

        void take(Program p) {
            program.take(p);
            isSettled = false;
        }

        void settle() {
            if (isSettled) {
                return;
            }
            layers.find();
            rounds.run();
            costs.run();
            isSettled = true;
        }

        /** Gives a rule a form that fits it, unless there are no layers then. */
        boolean reforms(int r, int form) {
            int had = program.formOf[r];
            program.formOf[r] = form;
            isSettled = false;
            if (layers.find()) {
                return true;
            }
            program.formOf[r] = had;
            return false;
        }

        boolean toggle(int q, int x, int y) {
            int bit = 1 << THINGS * x + y;
            program.told[q] ^= bit;
            isSettled = false;
            return (program.told[q] & bit) != 0;
        }

        int demandsOf(int q, int x) {
            int set = 1 << THINGS * q + x;
            boolean more = true;
            // Each pass but the last brings at least one of sixteen demands.
            for (int pass = 0; pass <= TWOS && more; pass++) {
                int grown = set;
                for (int r = 0; r < program.rules; r++) {
                    grown |= demandsBy(r, set);
                }
                more = grown != set;
                set = grown;
            }
            return set;
        }

        private int demandsBy(int r, int set) {
            int firsts = rowOf(set, program.headOf[r]);
            int body = THINGS * program.bodyOf[r];
            int other = THINGS * program.otherOf[r];
            if (firsts == 0) {
                return 0;
            }
            switch (program.formOf[r]) {
                case TURNED: return 15 << body;
                case JOINED: return firsts << body | middles(program.bodyOf[r], firsts) << other;
                case BUT_NOT: return firsts << body | firsts << other;
                default: return firsts << body;
            }
        }

        /** All z such that (x, z) holds for one of the first things x. */
        private int middles(int q, int firsts) {
            int set = 0;
            for (int x = 0; x < THINGS; x++) {
                if ((firsts >> x & 1) != 0) {
                    set |= rowOf(rounds.holds[q], x);
                }
            }
            return set;
        }
    }
}
