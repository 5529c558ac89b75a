/**
 * Tales that walk by roads from place to place, change as they walk, and are believed by the yard.
 * What each call does stands in ../shared/DOC.md; words in capitals are that document's own.
 */
public final class BelievedByYard {
    private static final int LOW = -1000000000;
    private static final int BEYOND = 1;
    private static final int NONE = 2;
    private static final int STATE = 3;
    private static final int FULL = 4;
    private static final int UNLIKE = 5;
    private static final int ERRORS = 5;

    private static final int MOST_PLACES = 7;
    private static final int MOST_TALES = 7;
    private static final int MOST_DOUBT = 99;
    private static final int MOST_ROAD = 99;
    private static final int MOST_TOLL = 9;
    private static final int MOST_MARKS = 255;
    private static final int MOST_KM = 69;
    private static final int MOST_HELD = 9999;

    private static final int MOST_TAPE = 50;
    private static final int MOST_OPEN = 5;
    private static final int MOST_WAITING = 20;
    private static final int MOST_TRACE = 40;
    private static final int MOST_DRAWN_STEPS = 60;
    private static final int MOST_CAN_STEPS = 60;
    private static final int MOST_MARKED_STEPS = 4;
    private static final int MOST_ROW = 5;
    private static final int FAULT_BASE = -10;

    private static final int SHEETS = 4;
    private static final int MOST_SHEET = 40;

    private static final int GROWS = 0;
    private static final int SOUND = 1;

    private static final int TALE = 0;
    private static final int LIMPING = 1;
    private static final int FOREIGN = 2;
    private static final int SMALL = 3;
    private static final int GOSPEL = 4;
    private static final int ELEPHANT = 5;
    private static final int WIFE = 6;
    /** The KIND above each KIND; none above TALE. */
    private static final int[] ABOVE = {-1, TALE, TALE, TALE, LIMPING, FOREIGN, SMALL};

    private final World now = new World();
    private final World kept = new World();
    private final Thought thought = new Thought(now);
    private final Reader reader = new Reader();
    private final Voices voices = new Voices();
    private final Sheet[] sheets = new Sheet[SHEETS];
    private final int[] errors = new int[ERRORS + 1];
    private int images;

    public BelievedByYard() {
        for (int i = 0; i < sheets.length; i++) {
            sheets[i] = new Sheet();
        }
    }

    // ---- places, roads, tales

    public int place(int doubt) {
        if (!isWithin(doubt, MOST_DOUBT)) {
            return fail(BEYOND);
        }
        if (now.places >= MOST_PLACES) {
            return fail(FULL);
        }
        return now.addPlace(doubt);
    }

    public int doubt(int place, int v) {
        if (!now.hasPlace(place) || !isWithin(v, MOST_DOUBT)) {
            return fail(BEYOND);
        }
        int before = now.doubts[place];
        now.doubts[place] = v;
        return before;
    }

    public int ofPlace(int place, int what) {
        if (!now.hasPlace(place) || !isWithin(what, 2)) {
            return fail(BEYOND);
        }
        if (what == 0) {
            return now.doubts[place];
        }
        return what == 1 ? now.talesAt(place) : now.fame(place);
    }

    public int road(int one, int other, int what, int v) {
        if (!isPair(one, other) || !isWithin(what, 1)) {
            return fail(BEYOND);
        }
        if (!isWithin(v, what == 0 ? MOST_ROAD : MOST_TOLL)) {
            return fail(BEYOND);
        }
        int before = now.ofRoad(one, other, what);
        now.setRoad(one, other, what, v);
        return before;
    }

    public int between(int one, int other, int what) {
        if (!isPair(one, other) || !isWithin(what, 1)) {
            return fail(BEYOND);
        }
        return now.ofRoad(one, other, what);
    }

    public int tale(int km, int marks, int place) {
        if (!isWithin(km, MOST_KM) || !isWithin(marks, MOST_MARKS) || !now.hasPlace(place)) {
            return fail(BEYOND);
        }
        if (now.taleCount >= MOST_TALES) {
            return fail(FULL);
        }
        return now.addTale(km, marks, place);
    }

    public int ofTale(int tale, int what) {
        Tale told = now.taleOf(tale);
        if (told == null || !isWithin(what, 6)) {
            return fail(BEYOND);
        }
        if (what == 6) {
            return asNumber(now.isBelieved(told));
        }
        return told.part(what);
    }

    public int change(int tale, int what, int v) {
        Tale told = now.taleOf(tale);
        if (told == null || !isWithin(what, 3) || !isPart(what, v)) {
            return fail(BEYOND);
        }
        int part = what + Tale.MARKS;
        int before = told.part(part);
        told.setPart(part, v);
        return before;
    }

    public int become(int tale, int km) {
        Tale told = now.taleOf(tale);
        if (told == null || !isWithin(km, MOST_KM)) {
            return fail(BEYOND);
        }
        int before = told.kind;
        told.setKind(km);
        return before;
    }

    public int as(int tale, int kind) {
        Tale told = now.taleOf(tale);
        if (told == null || !isWithin(kind, WIFE)) {
            return fail(BEYOND);
        }
        return isUnder(told.kind, kind) ? told.m : fail(UNLIKE);
    }

    // ---- texts

    public int feed(long word, int n) {
        if (n < 1 || n > 8) {
            return fail(BEYOND);
        }
        if (now.tape.size + n > MOST_TAPE) {
            return fail(FULL);
        }
        for (int i = 0; i < n; i++) {
            now.tape.add((int) (word >>> (8 * i)) & 255);
        }
        return now.tape.size;
    }

    public int text(int use) {
        if (!isWithin(use, SOUND)) {
            return fail(BEYOND);
        }
        boolean reads = reader.reads(now.tape, use);
        now.tape.clear();
        if (!reads) {
            return FAULT_BASE - reader.next;
        }
        now.textOf(use).take(reader.code);
        return 1;
    }

    public int law(int use, int a, int b, int c) {
        if (!isWithin(use, SOUND)) {
            return fail(BEYOND);
        }
        return now.gives(use, a, b, c);
    }

    // ---- steps

    public int go(int tale, int place) {
        Tale told = now.taleOf(tale);
        if (told == null || !now.hasPlace(place)) {
            return fail(BEYOND);
        }
        if (!now.hasRoad(told.at, place) || now.step >= MOST_HELD) {
            return fail(STATE);
        }
        now.walk(told, place);
        return asNumber(now.isBelieved(told));
    }

    public int loose(int n) {
        if (n < 1 || n > MOST_DRAWN_STEPS) {
            return fail(BEYOND);
        }
        if (now.step + n > MOST_HELD) {
            return fail(STATE);
        }
        int went = 0;
        for (int i = 0; i < n; i++) {
            if (now.stepByDraws()) {
                went++;
            }
        }
        return went;
    }

    // ---- what would be

    public int reach(int tale, int place, int what) {
        Tale told = now.taleOf(tale);
        if (told == null || !now.hasPlace(place) || !isWithin(what, 2)) {
            return fail(BEYOND);
        }
        if (!thought.reaches(told, place)) {
            return fail(NONE);
        }
        if (what == 0) {
            return thought.steps;
        }
        return what == 1 ? thought.first : thought.marksThen;
    }

    public int cheap(int tale, int place, int what) {
        Tale told = now.taleOf(tale);
        if (told == null || !now.hasPlace(place) || !isWithin(what, 1)) {
            return fail(BEYOND);
        }
        int price = thought.cheapest(told.at, place);
        if (price >= Thought.NO_WAY) {
            return fail(NONE);
        }
        return what == 0 ? price / Thought.TOLL_WEIGHT : price % Thought.TOLL_WEIGHT;
    }

    public int can(int tale, int n) {
        Tale told = now.taleOf(tale);
        if (told == null || !isWithin(n, MOST_CAN_STEPS)) {
            return fail(BEYOND);
        }
        return thought.placesBehind(told.at, n);
    }

    public int marked(int tale, int n) {
        Tale told = now.taleOf(tale);
        if (told == null || !isWithin(n, MOST_MARKED_STEPS)) {
            return fail(BEYOND);
        }
        return thought.unlikeMarks(told, n);
    }

    public int from(int sheet, int tale, int what) {
        Sheet row = sheetOf(sheet);
        Tale told = now.taleOf(tale);
        if (row == null || told == null || !isWithin(what, 1)) {
            return fail(BEYOND);
        }
        if (row.isMissing() || row.size < 1 || row.size > MOST_ROW) {
            return fail(NONE);
        }
        int rows = thought.rowsBy(row, told);
        if (what == 0) {
            return rows;
        }
        return rows > 0 ? thought.leastEnd : fail(NONE);
    }

    public int best(int what) {
        if (!isWithin(what, 1)) {
            return fail(BEYOND);
        }
        if (now.places == 0) {
            return fail(NONE);
        }
        int best = 0;
        for (int i = 1; i < now.places; i++) {
            if (now.believedWereAllAt(i) > now.believedWereAllAt(best)) {
                best = i;
            }
        }
        return what == 0 ? best : now.believedWereAllAt(best);
    }

    public int late(int tale) {
        Tale told = now.taleOf(tale);
        return told == null ? fail(BEYOND) : now.yardsLate(told);
    }

    public int round(int tale) {
        Tale told = now.taleOf(tale);
        if (told == null) {
            return fail(BEYOND);
        }
        return thought.comesRound(told) ? thought.steps : fail(NONE);
    }

    public int own(int tale) {
        Tale told = now.taleOf(tale);
        return told == null ? fail(BEYOND) : now.talesLike(told.marks) & ~(1 << tale);
    }

    public int odds(int tale, int part) {
        Tale told = now.taleOf(tale);
        if (told == null || !isWithin(part, 1)) {
            return fail(BEYOND);
        }
        int good = now.placesThatBelieve(told);
        int divisor = commonDivisor(good, now.places);
        return (part == 0 ? good : now.places) / divisor;
    }

    // ---- draws, voices, sheets, images, what is told

    public int seed(int v) {
        int before = now.z;
        now.z = v;
        return before;
    }

    public int voice(int tale, int act, int x) {
        Tale told = now.taleOf(tale);
        if (told == null || !isWithin(act, Voices.TELLS)) {
            return fail(BEYOND);
        }
        return voices.hear(told, tale, act, x);
    }

    public int trace(int i) {
        return voices.bodies.has(i) ? voices.bodies.numberAt(i) : fail(NONE);
    }

    public int sheet(int sheet, int bits, int n) {
        Sheet row = sheetOf(sheet);
        if (row == null || (bits != 0 && bits != 8 && bits != 16 && bits != 32)) {
            return fail(BEYOND);
        }
        if (bits != 0 && n < 0) {
            return fail(STATE);
        }
        if (bits != 0 && n > MOST_SHEET) {
            return fail(BEYOND);
        }
        row.renew(bits, bits == 0 ? 0 : n);
        return 1;
    }

    public int put(int sheet, int i, int v) {
        Sheet row = sheetOf(sheet);
        if (row == null) {
            return fail(BEYOND);
        }
        if (row.isMissing()) {
            return fail(NONE);
        }
        if (!row.has(i)) {
            return fail(BEYOND);
        }
        row.setNumber(i, v);
        return 1;
    }

    public int move(int sheet, int i, int other, int j, int n) {
        Sheet row = sheetOf(sheet);
        Sheet goal = sheetOf(other);
        if (row == null || goal == null) {
            return fail(BEYOND);
        }
        if (row.isMissing() || goal.isMissing()) {
            return fail(NONE);
        }
        if (row.bits != goal.bits) {
            return fail(UNLIKE);
        }
        if (!row.hasRun(i, n) || !goal.hasRun(j, n)) {
            return fail(BEYOND);
        }
        System.arraycopy(row.numbers, i, goal.numbers, j, n);
        return n;
    }

    public int marks(int sheet) {
        Sheet row = sheetOf(sheet);
        if (row == null) {
            return fail(BEYOND);
        }
        return row.isMissing() ? fail(NONE) : now.takeMarks(row);
    }

    public int judge(int sheet) {
        Sheet row = sheetOf(sheet);
        if (row == null) {
            return fail(BEYOND);
        }
        return row.isMissing() ? fail(NONE) : now.firstOtherYards(row);
    }

    public int image() {
        kept.take(now);
        images++;
        return images;
    }

    public int restore() {
        if (images == 0) {
            return fail(NONE);
        }
        now.take(kept);
        return now.step;
    }

    public int tell(int v) {
        return now.waiting.add(v) ? now.waiting.size : fail(FULL);
    }

    public int check() {
        int wrong = now.firstOtherLate();
        now.waiting.clear();
        return wrong + 1;
    }

    public int count(int what) {
        switch (what) {
            case 0: return now.places;
            case 1: return now.taleCount;
            case 2: return now.step;
            case 3: return now.sumOf(Tale.YARDS);
            case 4: return now.sumOf(Tale.COSTS);
            case 5: return now.believedInAll();
            case 6: return now.tape.size;
            case 7: return now.waiting.size;
            case 8: return voices.bodies.size;
            case 9: return now.z;
            default: return fail(BEYOND);
        }
    }

    public int told(int k) {
        return k < 1 || k > ERRORS ? fail(BEYOND) : errors[k];
    }

    // ---- what the calls share

    private int fail(int error) {
        if (error >= 1 && error <= ERRORS) {
            errors[error]++;
        }
        return LOW - error;
    }

    private Sheet sheetOf(int sheet) {
        return sheet >= 0 && sheet < sheets.length ? sheets[sheet] : null;
    }

    private boolean isPair(int one, int other) {
        return now.hasPlace(one) && now.hasPlace(other) && one != other;
    }

    /** Whether v may stand for what change() changes. */
    private boolean isPart(int what, int v) {
        switch (what) {
            case 0: return isWithin(v, MOST_MARKS);
            case 2: return now.hasPlace(v);
            default: return isWithin(v, MOST_HELD);
        }
    }

    private static boolean isWithin(int v, int most) {
        return v >= 0 && v <= most;
    }

    private static int asNumber(boolean is) {
        return is ? 1 : 0;
    }

    private static boolean isUnder(int kind, int wanted) {
        int k = kind;
        for (int i = 0; i < ABOVE.length && k >= 0 && k < ABOVE.length; i++) {
            if (k == wanted) {
                return true;
            }
            k = ABOVE[k];
        }
        return false;
    }

    /** The greatest one of two small numbers; 1 at least, so that it may divide. */
    private static int commonDivisor(int a, int b) {
        for (int i = b; i > 1; i--) {
            if (a % i == 0 && b % i == 0) {
                return i;
            }
        }
        return 1;
    }

    /** A row of ints that grows up to a bound that is told once. */
    private static final class Row {
        private final int[] numbers;
        private int size;

        Row(int most) {
            numbers = new int[Math.max(0, most)];
        }

        boolean add(int v) {
            if (size < 0 || size >= numbers.length) {
                return false;
            }
            numbers[size] = v;
            size++;
            return true;
        }

        boolean has(int i) {
            return i >= 0 && i < size && i < numbers.length;
        }

        int numberAt(int i) {
            return i >= 0 && i < size && i < numbers.length ? numbers[i] : 0;
        }

        void clear() {
            size = 0;
        }

        void take(Row other) {
            clear();
            for (int i = 0; i < other.size; i++) {
                add(other.numberAt(i));
            }
        }
    }

    /** Numbers of 8, 16 or 32 bits with a sign, as Java's byte, short and int are; of 0 bits: missing. */
    private static final class Sheet {
        private final int[] numbers = new int[MOST_SHEET];
        private int size;
        private int bits;

        boolean isMissing() {
            return bits == 0;
        }

        void renew(int newBits, int n) {
            bits = newBits;
            size = Math.max(0, Math.min(n, numbers.length));
            for (int i = 0; i < numbers.length; i++) {
                numbers[i] = 0;
            }
        }

        boolean has(int i) {
            return i >= 0 && i < size && i < numbers.length;
        }

        /** Differences, not sums, are compared: these can't wrap. */
        boolean hasRun(int i, int n) {
            return i >= 0 && n >= 0 && n <= size && i <= size - n && size <= numbers.length;
        }

        int numberAt(int i) {
            return i >= 0 && i < size && i < numbers.length ? numbers[i] : 0;
        }

        void setNumber(int i, int v) {
            if (has(i)) {
                int spare = 32 - bits;
                numbers[i] = (v << spare) >> spare;
            }
        }
    }

    /** A TALE; its parts are numbered as ofTale() numbers them. */
    private static final class Tale {
        private static final int MARKS = 2;
        private static final int YARDS = 3;
        private static final int AT = 4;
        private static final int COSTS = 5;

        private int kind;
        private int m;
        private int marks;
        private int yards;
        private int at;
        private int costs;

        void setKind(int km) {
            kind = km / 10;
            m = km % 10;
        }

        int part(int what) {
            switch (what) {
                case 0: return kind;
                case 1: return m;
                case MARKS: return marks;
                case YARDS: return yards;
                case AT: return at;
                case COSTS: return costs;
                default: return 0;
            }
        }

        void setPart(int what, int v) {
            switch (what) {
                case MARKS: marks = v; break;
                case YARDS: yards = v; break;
                case AT: at = v; break;
                case COSTS: costs = v; break;
                default: break;
            }
        }

        void take(Tale other) {
            kind = other.kind;
            m = other.m;
            marks = other.marks;
            yards = other.yards;
            at = other.at;
            costs = other.costs;
        }

        /** YARDS that it counts for a ROAD of y. */
        int walks(int y) {
            switch (kind) {
                case LIMPING: return Math.max(1, y / 2);
                case FOREIGN: return y * 3;
                case GOSPEL: return Math.max(1, y / 2) * 2;
                case ELEPHANT: return y * 3 + m;
                case WIFE: return Math.max(0, y - m);
                default: return y;
            }
        }

        /** MARKS behind a ROAD of y YARDS, by b ahead and by what the TEXT gives for them. */
        int grown(int b, int y, int given) {
            int turned = given ^ (1 << (y & 7));
            switch (kind) {
                case LIMPING: return (given | 1) & MOST_MARKS;
                case FOREIGN: return turned & MOST_MARKS;
                case SMALL: return b & MOST_MARKS;
                case GOSPEL: return (given | 129) & MOST_MARKS;
                case ELEPHANT: return ~turned & MOST_MARKS;
                case WIFE: return b & (MOST_MARKS - 1);
                default: return given & MOST_MARKS;
            }
        }
    }

    /**
     * A TEXT as a row of what is to be done, its parts ahead of what joins them: so it is read once
     * and then worked out without any calls that stand open. An empty one is no TEXT.
     */
    private static final class Text {
        /** NAMES stand behind all NUMBERS; signs stand below 0. */
        private static final int FIRST_NAME = 10000;

        private final Row code = new Row(MOST_TAPE);
        private final int[] stack = new int[MOST_TAPE];

        boolean isMissing() {
            return code.size == 0;
        }

        void take(Row other) {
            code.take(other);
        }

        int value(int a, int b, int c) {
            int top = 0;
            for (int i = 0; i < code.size; i++) {
                int item = code.numberAt(i);
                if (item >= 0 && top < stack.length) {
                    stack[top] = item < FIRST_NAME ? item : named(item, a, b, c);
                    top++;
                } else if (item == -'!' && top >= 1 && top <= stack.length) {
                    stack[top - 1] = stack[top - 1] == 0 ? 1 : 0;
                } else if (top >= 2 && top <= stack.length) {
                    top--;
                    stack[top - 1] = joined(-item, stack[top - 1], stack[top]);
                }
            }
            return top >= 1 ? stack[0] : 0;
        }

        private static int named(int item, int a, int b, int c) {
            switch (item - FIRST_NAME) {
                case 0: return a;
                case 1: return b;
                default: return c;
            }
        }

        private static int joined(int sign, int left, int right) {
            switch (sign) {
                case '|': return left != 0 || right != 0 ? 1 : 0;
                case '&': return left != 0 && right != 0 ? 1 : 0;
                case '<': return left < right ? 1 : 0;
                case '=': return left == right ? 1 : 0;
                case '>': return left > right ? 1 : 0;
                case '+': return left + right;
                case '-': return left - right;
                case '*': return left * right;
                case '/': return right == 0 ? 0 : left / right;
                case '%': return right == 0 ? 0 : left % right;
                default: return 0;
            }
        }
    }

    /** Reads THE TAPE by the document's grammar; where it stops is the FAULT. */
    private static final class Reader {
        private static final int ENDED = -1;
        private static final int COMPARING = 2;
        private static final int SINGLE = 5;
        private static final int MOST_DIGITS = 4;
        /** The NAMES of USE 0, then those of USE 1. */
        private static final char[] NAMES = {'b', 'y', 'p', 'b', 'd', 'm'};
        private static final int NAMES_EACH = 3;

        private final Row code = new Row(MOST_TAPE);
        private final Row bytes = new Row(MOST_TAPE);
        private int use;
        private int next;

        boolean reads(Row tape, int ofUse) {
            bytes.take(tape);
            code.clear();
            use = ofUse;
            next = 0;
            return readJoined(0, 0) && next == bytes.size;
        }

        /** Level 0 is the document's T, 1 its A, 2 B, 3 S, 4 P and 5 Q. */
        private boolean readJoined(int level, int open) {
            if (level >= SINGLE) {
                return readSingle(open);
            }
            if (!readJoined(level + 1, open)) {
                return false;
            }
            boolean more = true;
            while (more && next < bytes.size && levelOf(peek()) == level) {
                int sign = peek();
                next++;
                if (!readJoined(level + 1, open)) {
                    return false;
                }
                code.add(-sign);
                more = level != COMPARING;
            }
            return true;
        }

        private boolean readSingle(int open) {
            int sign = peek();
            if (isDigit(sign)) {
                return readNumber();
            }
            int name = nameOf(sign);
            if (name < NAMES_EACH) {
                next++;
                return code.add(Text.FIRST_NAME + name);
            }
            if (open >= MOST_OPEN || (sign != '!' && sign != '(')) {
                return false;
            }
            next++;
            return sign == '!' ? readTurned(open + 1) : readClosed(open + 1);
        }

        private boolean readTurned(int open) {
            return readSingle(open) && code.add(-'!');
        }

        private boolean readClosed(int open) {
            if (!readJoined(0, open) || peek() != ')') {
                return false;
            }
            next++;
            return true;
        }

        private boolean readNumber() {
            int number = 0;
            for (int i = 0; i < MOST_DIGITS && isDigit(peek()); i++) {
                number = number * 10 + peek() - '0';
                next++;
            }
            return code.add(number);
        }

        private int peek() {
            return bytes.has(next) ? bytes.numberAt(next) : ENDED;
        }

        private int nameOf(int sign) {
            int name = 0;
            while (name < NAMES_EACH && !isName(use * NAMES_EACH + name, sign)) {
                name++;
            }
            return name;
        }

        private static boolean isName(int i, int sign) {
            return i >= 0 && i < NAMES.length && NAMES[i] == sign;
        }

        private static boolean isDigit(int sign) {
            return sign >= '0' && sign <= '9';
        }

        private static int levelOf(int sign) {
            switch (sign) {
                case '|': return 0;
                case '&': return 1;
                case '<':
                case '=':
                case '>': return COMPARING;
                case '+':
                case '-': return 3;
                case '*':
                case '/':
                case '%': return 4;
                default: return SINGLE;
            }
        }
    }

    /** All that an IMAGE keeps. */
    private static final class World {
        private static final int DRAW_TIMES = 1103515245;
        private static final int DRAW_PLUS = 12345;
        private static final int OWN_BITS = 3;

        private final int[] doubts = new int[MOST_PLACES];
        private final int[] yards = new int[MOST_PLACES * MOST_PLACES];
        private final int[] tolls = new int[MOST_PLACES * MOST_PLACES];
        private final Tale[] tales = new Tale[MOST_TALES];
        private final Text growing = new Text();
        private final Text sounding = new Text();
        private final Row tape = new Row(MOST_TAPE);
        private final Row waiting = new Row(MOST_WAITING);
        private int places;
        private int taleCount;
        private int step;
        private int z = 1;

        World() {
            for (int i = 0; i < tales.length; i++) {
                tales[i] = new Tale();
            }
        }

        void take(World other) {
            System.arraycopy(other.doubts, 0, doubts, 0, MOST_PLACES);
            System.arraycopy(other.yards, 0, yards, 0, MOST_PLACES * MOST_PLACES);
            System.arraycopy(other.tolls, 0, tolls, 0, MOST_PLACES * MOST_PLACES);
            for (int i = 0; i < tales.length && i < other.tales.length; i++) {
                Tale mine = tales[i];
                Tale others = other.tales[i];
                if (mine != null && others != null) {
                    mine.take(others);
                }
            }
            growing.take(other.growing.code);
            sounding.take(other.sounding.code);
            tape.take(other.tape);
            waiting.take(other.waiting);
            places = other.places;
            taleCount = other.taleCount;
            step = other.step;
            z = other.z;
        }

        boolean hasPlace(int place) {
            return place >= 0 && place < places && place < MOST_PLACES;
        }

        /** null where there is none. */
        Tale taleOf(int tale) {
            return tale >= 0 && tale < taleCount && tale < tales.length ? tales[tale] : null;
        }

        int addPlace(int doubt) {
            int place = places;
            if (place >= 0 && place < doubts.length) {
                doubts[place] = doubt;
                places++;
            }
            return place;
        }

        int addTale(int km, int marks, int place) {
            int number = taleCount;
            taleCount++;
            Tale added = taleOf(number);
            if (added != null) {
                added.setKind(km);
                added.marks = marks;
                added.yards = 0;
                added.at = place;
                added.costs = 0;
            }
            return number;
        }

        /** what 0: YARDS, 1: TOLL. */
        int ofRoad(int one, int other, int what) {
            if (!hasPlace(one) || !hasPlace(other)) {
                return 0;
            }
            int i = one * MOST_PLACES + other;
            return what == 0 ? yards[i] : tolls[i];
        }

        boolean hasRoad(int one, int other) {
            return ofRoad(one, other, 0) > 0;
        }

        void setRoad(int one, int other, int what, int v) {
            if (hasPlace(one) && hasPlace(other)) {
                int[] row = what == 0 ? yards : tolls;
                row[one * MOST_PLACES + other] = v;
                row[other * MOST_PLACES + one] = v;
            }
        }

        Text textOf(int use) {
            return use == GROWS ? growing : sounding;
        }

        /** What a USE gives with its NAMES as a, b, c. */
        int gives(int use, int a, int b, int c) {
            if (use == GROWS) {
                return growing.isMissing() ? a + b : growing.value(a, b, c);
            }
            return sounding.isMissing() ? 1 : Math.max(0, Math.min(1, sounding.value(a, b, c)));
        }

        /** MARKS of a TALE behind a ROAD from a PLACE, by MARKS ahead. */
        int marksBehind(Tale tale, int marks, int y, int from) {
            return tale.grown(marks, y, gives(GROWS, marks, y, from));
        }

        boolean believes(int place, int m, int marks, int walked) {
            if (!hasPlace(place) || walked < doubts[place]) {
                return false;
            }
            return gives(SOUND, marks, doubts[place], m) != 0;
        }

        boolean isBelievedAt(Tale tale, int place) {
            return believes(place, tale.m, tale.marks, tale.yards);
        }

        boolean isBelieved(Tale tale) {
            return isBelievedAt(tale, tale.at);
        }

        void walk(Tale tale, int place) {
            int y = ofRoad(tale.at, place, 0);
            int toll = ofRoad(tale.at, place, 1);
            tale.marks = marksBehind(tale, tale.marks, y, tale.at);
            tale.yards = Math.min(MOST_HELD, tale.yards + tale.walks(y));
            tale.costs = Math.min(MOST_HELD, tale.costs + toll);
            tale.at = place;
            step++;
        }

        /** Whether a TALE went. */
        boolean stepByDraws() {
            Tale drawn = taleOf(draw() % MOST_TALES);
            int place = draw() % MOST_PLACES;
            if (drawn == null || !hasRoad(drawn.at, place)) {
                step++;
                return false;
            }
            walk(drawn, place);
            return true;
        }

        private int draw() {
            z = z * DRAW_TIMES + DRAW_PLUS;
            return z >>> 8;
        }

        int talesAt(int place) {
            int set = 0;
            for (int i = 0; i < taleCount; i++) {
                Tale tale = taleOf(i);
                if (tale != null && tale.at == place) {
                    set |= 1 << i;
                }
            }
            return set;
        }

        int fame(int place) {
            int believed = 0;
            for (int i = 0; i < taleCount; i++) {
                Tale tale = taleOf(i);
                if (tale != null && tale.at == place && isBelievedAt(tale, place)) {
                    believed++;
                }
            }
            return believed;
        }

        int believedInAll() {
            int believed = 0;
            for (int i = 0; i < taleCount; i++) {
                Tale tale = taleOf(i);
                if (tale != null && isBelievedAt(tale, tale.at)) {
                    believed++;
                }
            }
            return believed;
        }

        int believedWereAllAt(int place) {
            int believed = 0;
            for (int i = 0; i < taleCount; i++) {
                Tale tale = taleOf(i);
                if (tale != null && isBelievedAt(tale, place)) {
                    believed++;
                }
            }
            return believed;
        }

        int placesThatBelieve(Tale tale) {
            int believing = 0;
            for (int i = 0; i < places; i++) {
                if (isBelievedAt(tale, i)) {
                    believing++;
                }
            }
            return believing;
        }

        int yardsLate(Tale tale) {
            return hasPlace(tale.at) ? Math.max(0, doubts[tale.at] - tale.yards) : 0;
        }

        int talesLike(int marks) {
            int set = 0;
            for (int i = 0; i < taleCount; i++) {
                Tale tale = taleOf(i);
                if (tale != null && Integer.bitCount(tale.marks ^ marks) < OWN_BITS) {
                    set |= 1 << i;
                }
            }
            return set;
        }

        int sumOf(int part) {
            int sum = 0;
            for (int i = 0; i < taleCount; i++) {
                Tale tale = taleOf(i);
                if (tale != null) {
                    sum += tale.part(part);
                }
            }
            return sum;
        }

        /** How many numbers became MARKS. */
        int takeMarks(Sheet sheet) {
            for (int i = 0; i < sheet.size; i++) {
                Tale tale = taleOf(i);
                if (tale == null || !isWithin(sheet.numberAt(i), MOST_MARKS)) {
                    return i;
                }
                tale.marks = sheet.numberAt(i);
            }
            return sheet.size;
        }

        /** -1 where the SHEET tells the YARDS of all TALES and no more. */
        int firstOtherYards(Sheet sheet) {
            for (int i = 0; i < sheet.size; i++) {
                Tale tale = taleOf(i);
                if (tale == null || tale.yards != sheet.numberAt(i)) {
                    return i;
                }
            }
            return sheet.size < taleCount ? sheet.size : -1;
        }

        /** -1 where all numbers that wait are so. */
        int firstOtherLate() {
            for (int i = 0; i < waiting.size; i++) {
                Tale tale = taleOf(i);
                if (tale == null || yardsLate(tale) != waiting.numberAt(i)) {
                    return i;
                }
            }
            return -1;
        }
    }

    /** What would be: ROWS of STEPS and ways that nobody goes; it only looks at the World. */
    private static final class Thought {
        /** More than the YARDS of any way together, so that one TOLL less outweighs them. */
        private static final int TOLL_WEIGHT = 1000;
        private static final int NO_WAY = 1000000;
        private static final int WORD = 32;

        private final World world;
        private final int[] prices = new int[MOST_PLACES];
        private final int[] seenMarks = new int[(MOST_MARKS + 1) / WORD];
        private int steps;
        private int first;
        private int marksThen;
        private int leastEnd;

        Thought(World world) {
            this.world = world;
        }

        /** Whether REACH is there; steps, first and marksThen tell it. */
        boolean reaches(Tale tale, int goal) {
            for (int n = 0; n <= MOST_ROW; n++) {
                steps = n;
                if (arrives(tale, goal, tale.at, tale.marks, tale.yards, n)) {
                    return true;
                }
            }
            return false;
        }

        /** PLACES are tried from the least on: so the first ROW that arrives is the one asked for. */
        private boolean arrives(Tale tale, int goal, int at, int marks, int yards, int left) {
            if (left <= 0) {
                first = at;
                marksThen = marks;
                return at == goal && world.believes(at, tale.m, marks, yards);
            }
            for (int i = 0; i < world.places; i++) {
                int y = world.ofRoad(at, i, 0);
                int walked = yards + tale.walks(y);
                if (y > 0 && (left > 1 || isEnough(goal, i, walked))
                        && arrives(tale, goal, i, world.marksBehind(tale, marks, y, at), walked, left - 1)) {
                    first = i;
                    return true;
                }
            }
            return false;
        }

        /** Asked ahead of the last STEP: it spares most of the TEXTS. */
        private boolean isEnough(int goal, int place, int walked) {
            return place == goal && world.hasPlace(place) && walked >= world.doubts[place];
        }

        /** Whether ROUND is there; steps tells it. */
        boolean comesRound(Tale tale) {
            for (int n = 1; n <= MOST_ROW; n++) {
                steps = n;
                if (returns(tale, tale.at, tale.marks, n)) {
                    return true;
                }
            }
            return false;
        }

        private boolean returns(Tale tale, int at, int marks, int left) {
            if (left <= 0) {
                return at == tale.at && marks == tale.marks;
            }
            for (int i = 0; i < world.places; i++) {
                int y = world.ofRoad(at, i, 0);
                if (y > 0 && (left > 1 || i == tale.at)
                        && returns(tale, i, world.marksBehind(tale, marks, y, at), left - 1)) {
                    return true;
                }
            }
            return false;
        }

        /**
         * TOLL_WEIGHT times the TOLLS, and the YARDS, of the CHEAP way; NO_WAY or more if there is
         * none. Each ROAD costs something, so the least way has no PLACE twice.
         */
        int cheapest(int start, int goal) {
            if (!world.hasPlace(start) || !world.hasPlace(goal)) {
                return NO_WAY;
            }
            for (int i = 0; i < prices.length; i++) {
                prices[i] = NO_WAY;
            }
            prices[start] = 0;
            for (int n = 1; n < world.places; n++) {
                for (int i = 0; i < world.places; i++) {
                    lowerPricesFrom(i);
                }
            }
            return prices[goal];
        }

        private void lowerPricesFrom(int one) {
            for (int i = 0; i < world.places; i++) {
                int y = world.ofRoad(one, i, 0);
                if (y > 0 && one < prices.length && i < prices.length) {
                    int price = prices[one] + world.ofRoad(one, i, 1) * TOLL_WEIGHT + y;
                    prices[i] = Math.min(prices[i], price);
                }
            }
        }

        int placesBehind(int start, int n) {
            int set = 1 << start;
            for (int i = 0; i < n; i++) {
                set = placesNextTo(set);
            }
            return set;
        }

        private int placesNextTo(int set) {
            int ahead = 0;
            for (int i = 0; i < world.places; i++) {
                for (int k = 0; k < world.places; k++) {
                    if ((set >> i & 1) != 0 && world.hasRoad(i, k)) {
                        ahead |= 1 << k;
                    }
                }
            }
            return ahead;
        }

        int unlikeMarks(Tale tale, int n) {
            for (int i = 0; i < seenMarks.length; i++) {
                seenMarks[i] = 0;
            }
            seeMarks(tale, tale.at, tale.marks, n);
            int unlike = 0;
            for (int i = 0; i < seenMarks.length; i++) {
                unlike += Integer.bitCount(seenMarks[i]);
            }
            return unlike;
        }

        private void seeMarks(Tale tale, int at, int marks, int left) {
            if (left <= 0) {
                if (isWithin(marks, MOST_MARKS)) {
                    seenMarks[marks / WORD] |= 1 << (marks % WORD);
                }
                return;
            }
            for (int i = 0; i < world.places; i++) {
                int y = world.ofRoad(at, i, 0);
                if (y > 0) {
                    seeMarks(tale, i, world.marksBehind(tale, marks, y, at), left - 1);
                }
            }
        }

        /** By how many ROWS the MARKS are so; leastEnd is the least PLACE behind them. */
        int rowsBy(Sheet sheet, Tale tale) {
            leastEnd = MOST_PLACES;
            return rowsOn(sheet, tale, tale.at, tale.marks, 0);
        }

        private int rowsOn(Sheet sheet, Tale tale, int at, int marks, int i) {
            if (!sheet.has(i) || sheet.numberAt(i) != marks) {
                return 0;
            }
            if (i + 1 >= sheet.size || i >= MOST_ROW) {
                leastEnd = Math.min(leastEnd, at);
                return 1;
            }
            int rows = 0;
            for (int k = 0; k < world.places; k++) {
                int y = world.ofRoad(at, k, 0);
                if (y > 0) {
                    rows += rowsOn(sheet, tale, k, world.marksBehind(tale, marks, y, at), i + 1);
                }
            }
            return rows;
        }
    }

    /** The VOICES, and THE TRACE of the latest one. */
    private static final class Voices {
        private static final int WALKS = 0;
        private static final int GROWING = 1;
        private static final int LIMPS = 2;
        private static final int TELLS = 3;
        private static final int ACTS = 4;
        /** The BODIES of each KIND, an act each; 0 where it has none of its own. */
        private static final int[] BODIES = {
            10, 11, 12, 13,
            20, 0, 0, 0,
            0, 30, 0, 0,
            0, 0, 40, 0,
            0, 0, 0, 50,
            0, 60, 0, 0,
            0, 0, 70, 71,
        };
        /** Far above what the longest chain of BODIES needs. */
        private static final int MOST_DEPTH = 40;

        private final Row bodies = new Row(MOST_TRACE);
        private int kind;
        private int m;
        private int n;

        int hear(Tale tale, int number, int act, int x) {
            bodies.clear();
            kind = tale.kind;
            m = tale.m;
            n = number;
            return say(act, kind, x, 0);
        }

        /** The BODY of an act, looked for from a KIND upwards, and what it gives. */
        private int say(int act, int lowest, int x, int depth) {
            int owner = lowest;
            for (int i = 0; i < ABOVE.length && bodyOf(owner, act) == 0; i++) {
                owner = above(owner);
            }
            int body = bodyOf(owner, act);
            if (body == 0 || depth > MOST_DEPTH) {
                return 0;
            }
            bodies.add(body);
            return run(body, above(owner), x, depth + 1);
        }

        private int run(int body, int higher, int x, int depth) {
            switch (body) {
                case 10: return x + n;
                case 11: return say(WALKS, kind, x, depth) * 2;
                case 12: return x - m;
                case 13: return say(GROWING, kind, x, depth) ^ say(LIMPS, kind, x, depth);
                case 20: return say(WALKS, higher, x, depth) * 3;
                case 30: return say(GROWING, higher, x, depth) - say(LIMPS, kind, 1, depth);
                case 40: return -say(LIMPS, higher, x, depth);
                case 50: return say(TELLS, higher, x, depth) - say(WALKS, kind, 2, depth);
                case 60: return say(GROWING, higher, x + 1, depth);
                case 70: return say(LIMPS, higher, x, depth) ^ n;
                case 71: return say(GROWING, kind, x, depth) - say(TELLS, higher, x, depth);
                default: return 0;
            }
        }

        private static int above(int kind) {
            return kind >= 0 && kind < ABOVE.length ? ABOVE[kind] : -1;
        }

        private static int bodyOf(int kind, int act) {
            int i = kind * ACTS + act;
            return kind >= 0 && i >= 0 && i < BODIES.length ? BODIES[i] : 0;
        }
    }
}
