import java.util.NoSuchElementException;

/** Tables changed while they are asked; ../shared/DOC.md tells what each call promises. */
public final class LedTables {
    public static final int NONE = -1;
    public static final int VOID = Integer.MIN_VALUE;

    private static final int LETTERS = 4;
    private static final int TAPE_BYTES = 400;
    private static final int FED_BYTES = 20;
    private static final int MOST_CHANGES = 3;
    private static final int MOST_PROGRAMS = 5;
    private static final int STAGES = 6;
    private static final int LAST_STAGE = 5;
    private static final int KEYS = 40;
    private static final int ASKERS = 8;
    private static final int BOX_ROWS = 4096;

    private final int[] tape;
    private int taped;
    private final Lens lens;
    private final Reader reader;
    private int faultPlace;
    private final Box box;
    private final Plan plan;
    private Ways ways;
    private final Asked asked;
    private final Table table;

    public LedTables() {
        tape = new int[TAPE_BYTES];
        taped = 0;
        lens = new Lens();
        reader = new Reader(tape, new Lens());
        faultPlace = NONE;
        box = new Box(lens);
        plan = new Plan();
        ways = null;
        asked = new Asked();
        table = new Table(lens, asked);
    }

    // ---- the lens ----

    public int feed(int a, int b, int c, int d, int e) {
        if (taped + FED_BYTES > TAPE_BYTES) {
            return NONE;
        }
        feedNumber(a);
        feedNumber(b);
        feedNumber(c);
        feedNumber(d);
        feedNumber(e);
        return taped;
    }

    private void feedNumber(int number) {
        for (int shift = 24; shift >= 0; shift -= 8) {
            if (taped < TAPE_BYTES) {
                tape[taped] = (number >>> shift) & 255;
                taped++;
            }
        }
    }

    public int lens(int n) throws IllegalArgumentException, IllegalStateException {
        if (n < 0 || n > taped) {
            throw new IllegalArgumentException("not so many bytes on the tape");
        }
        if (table.stage > 1) {
            throw new IllegalStateException("the lens is in use");
        }
        taped = 0;
        if (!reader.readLens(n)) {
            faultPlace = reader.place;
            return reader.fault - 10;
        }
        faultPlace = NONE;
        lens.become(reader.draft);
        return lens.clauses;
    }

    public int fault() {
        return faultPlace;
    }

    public int see(int a, int b, int c, int d, int letter) throws IllegalArgumentException {
        checkLetter(letter);
        fill(table.oldNow, a, b, c, d);
        lens.toNew(table.oldNow, table.newNow);
        return table.newNow[letter];
    }

    public int put(int a, int b, int c, int d, int beside, int letter) throws IllegalArgumentException {
        checkLetter(letter);
        fill(table.newNow, a, b, c, d);
        fill(table.oldNow, beside, beside, beside, beside);
        lens.toBeside(table.oldNow, table.besideNow);
        lens.toOld(table.newNow, table.besideNow, table.oldNow);
        return table.oldNow[letter];
    }

    private static void fill(int[] row, int a, int b, int c, int d) {
        if (row.length == LETTERS) {
            row[0] = a;
            row[1] = b;
            row[2] = c;
            row[3] = d;
        }
    }

    // ---- the box ----

    public void box(int letter, int least, int greatest) throws IllegalArgumentException {
        checkLetter(letter);
        checkRange(least, -999, 999);
        checkRange(greatest, -999, 999);
        checkRange(greatest - least, 0, 7);
        box.bound(letter, least, greatest);
    }

    public int agree(int kind, int letter) throws IllegalArgumentException {
        checkRange(kind, 0, 1);
        checkLetter(letter);
        return box.firstUnlike(kind, letter);
    }

    public int unlike(int kind) throws IllegalArgumentException {
        checkRange(kind, 0, 1);
        return box.manyUnlike(kind);
    }

    public int lost() {
        return box.lostLetters();
    }

    public int wrong() {
        return box.manyWrong();
    }

    // ---- plans ----

    public int change() {
        return plan.addChange();
    }

    public int hold(int change, int stage, int v) throws NoSuchElementException, IllegalArgumentException {
        checkChange(change);
        checkRange(stage, 0, LAST_STAGE - 1);
        checkRange(v, 0, 99);
        return plan.tellHold(change, stage, v);
    }

    public int order(int first, int second, boolean bar) throws NoSuchElementException, IllegalArgumentException {
        checkChange(first);
        checkChange(second);
        if (first == second) {
            throw new IllegalArgumentException("one change alone");
        }
        boolean told = bar ? plan.tellBar(first, second) : plan.tellOrder(first, second);
        return told ? 1 : 0;
    }

    public int program() {
        return plan.addProgram();
    }

    public int need(int program, int change, int kind)
            throws IndexOutOfBoundsException, NoSuchElementException, IllegalArgumentException {
        checkProgram(program);
        checkChange(change);
        checkRange(kind, 0, 2);
        return plan.tellNeed(program, change, kind);
    }

    public int price(int program, int v) throws IndexOutOfBoundsException, IllegalArgumentException {
        checkProgram(program);
        checkRange(v, 0, 99);
        return plan.tellPrice(program, v);
    }

    public boolean stands(int node, int rewritten) throws IllegalArgumentException {
        checkNode(node, rewritten);
        return plan.isStanding(node, rewritten);
    }

    public int way(int node, int rewritten, int what) throws IllegalArgumentException {
        checkNode(node, rewritten);
        if (what < -2) {
            throw new IllegalArgumentException("no such part of a way");
        }
        return worked().partOfWay(node, rewritten, what);
    }

    public int fewest(int node, int rewritten) throws IllegalArgumentException {
        checkNode(node, rewritten);
        return worked().fewestRewritten(node, rewritten);
    }

    public boolean isBack(int node, int rewritten) throws IllegalArgumentException {
        checkNode(node, rewritten);
        return worked().hasBack(node, rewritten);
    }

    public int last(int node, int rewritten) throws IllegalArgumentException {
        checkNode(node, rewritten);
        return worked().lastBack(node, rewritten);
    }

    /** The ways are large, so an object that is never asked for one has none. */
    private Ways worked() {
        if (ways == null) {
            ways = new Ways(plan);
        }
        ways.workIfStale();
        return ways;
    }

    // ---- doing ----

    public int go() {
        return table.goOn();
    }

    public int back() {
        return table.goBack();
    }

    public int insert(int key) throws IndexOutOfBoundsException {
        checkKey(key);
        return table.addRow(key);
    }

    public boolean delete(int key) throws IndexOutOfBoundsException {
        checkKey(key);
        return table.dropRow(key);
    }

    public int read(int program, int key, int form, int letter)
            throws IndexOutOfBoundsException, IllegalArgumentException, NoSuchElementException {
        checkKey(key);
        checkAsked(program, form, letter);
        checkThere(key);
        return table.readLetter(program, key, form, letter);
    }

    public int write(int program, int key, int form, int letter, int v)
            throws IndexOutOfBoundsException, IllegalArgumentException, NoSuchElementException {
        checkKey(key);
        checkAsked(program, form, letter);
        checkRange(v, -1000000, 1000000);
        checkThere(key);
        return table.writeLetter(program, key, form, letter, v) ? 1 : 0;
    }

    public int first(int form) throws IllegalArgumentException {
        checkRange(form, 0, 1);
        int was = table.firstForm;
        table.firstForm = form;
        return was;
    }

    public int tick(int many) throws IllegalArgumentException, IllegalStateException {
        checkRange(many, 0, 1000);
        if (table.now + many > 10000) {
            throw new IllegalStateException("no more ticks");
        }
        table.now += many;
        return table.now;
    }

    public int bite(int n) throws IllegalArgumentException, IllegalStateException {
        checkRange(n, 1, KEYS);
        if (table.stage < 2 || table.stage > 4) {
            throw new IllegalStateException("no bites at this stage");
        }
        return table.leadRows(n);
    }

    public int fall(int k) throws IllegalArgumentException {
        checkRange(k, 0, KEYS);
        int was = table.fallAt;
        table.fallAt = k;
        return was;
    }

    public int row(int key, int what) throws IndexOutOfBoundsException, IllegalArgumentException {
        checkKey(key);
        checkRange(what, 0, 8);
        return table.tellRow(key, what);
    }

    public int quiet(int ticks) throws IllegalArgumentException {
        checkRange(ticks, 0, 1000);
        int was = table.quietTicks;
        table.quietTicks = ticks;
        return was;
    }

    public int asked(int program, int form, int letter, boolean written) throws IllegalArgumentException {
        checkAsked(program, form, letter);
        return asked.latest(program, form, letter, written);
    }

    public int still(int letter, int from) throws IllegalArgumentException {
        checkLetter(letter);
        return asked.oldAskers(letter, from);
    }

    public int sum(int from, int to) throws IndexOutOfBoundsException, IllegalArgumentException {
        checkSpan(from, to);
        return table.sumOf(from, to);
    }

    public int halves(int from, int to) throws IndexOutOfBoundsException, IllegalArgumentException {
        checkSpan(from, to);
        return table.halve(from, to);
    }

    public boolean mend(int key) throws IndexOutOfBoundsException, NoSuchElementException {
        checkKey(key);
        checkThere(key);
        return table.mendRow(key);
    }

    public int count(int what) {
        switch (what) {
            case 0: return table.stage;
            case 1: return table.now;
            case 2: return table.manyRows();
            case 3: return table.manyOf(Row.OLD_ALONE);
            case 4: return table.manyOf(Row.LED);
            case 5: return table.manyOf(Row.NEW_ALONE);
            case 6: return table.manyOf(Row.PUT_BY);
            case 7: return table.manyBroken();
            case 8: return table.manyOdd();
            case 9: return lens.clauses;
            case 10: return plan.changes;
            case 11: return plan.programs;
            case 12: return taped;
            default: return NONE;
        }
    }

    // ---- what the callers may ask for ----

    private static void checkRange(int v, int least, int greatest) {
        if (v < least || v > greatest) {
            throw new IllegalArgumentException("out of its range");
        }
    }

    private static void checkLetter(int letter) {
        checkRange(letter, 0, LETTERS - 1);
    }

    private static void checkAsked(int program, int form, int letter) {
        checkRange(program, 0, ASKERS - 1);
        checkRange(form, 0, 1);
        checkLetter(letter);
    }

    private static void checkKey(int key) {
        if (key < 0 || key >= KEYS) {
            throw new IndexOutOfBoundsException("no such key");
        }
    }

    private static void checkSpan(int from, int to) {
        checkKey(from);
        checkKey(to);
        checkRange(from, 0, to);
    }

    private void checkThere(int key) {
        if (!table.isThere(key)) {
            throw new NoSuchElementException("the row is not there");
        }
    }

    private void checkChange(int change) {
        if (change < 0 || change >= plan.changes) {
            throw new NoSuchElementException("no such change");
        }
    }

    private void checkProgram(int program) {
        if (program < 0 || program >= plan.programs) {
            throw new IndexOutOfBoundsException("no such program");
        }
    }

    private void checkNode(int node, int rewritten) {
        checkRange(node, 0, plan.manyNodes() - 1);
        checkRange(rewritten, 0, plan.manySets() - 1);
    }

    private static boolean areAlike(int[] left, int[] right) {
        if (left.length != right.length) {
            return false;
        }
        for (int i = 0; i < left.length; i++) {
            if (left[i] != right[i]) {
                return false;
            }
        }
        return true;
    }

    /**
     * A lens as orders for a small stack machine: the text is read once, and no row that is seen
     * makes an object. Letters are numbered 0 to 3 (old) and 4 to 7 (new).
     */
    private static final class Lens {
        static final int NUMBER = 0;
        static final int OLD = 1;
        static final int NEW = 2;
        static final int JUMP = 3;
        static final int UNLESS = 4;
        static final int NOT = 5;
        static final int PLUS = 6;
        static final int MINUS = 7;
        static final int TIMES = 8;
        static final int OVER = 9;
        static final int LEAST = 10;
        static final int MOST = 11;
        static final int BELOW = 12;
        static final int ABOVE = 13;
        static final int SAME = 14;
        static final int AND = 15;
        static final int OR = 16;
        static final int MOST_CLAUSES = 16;
        /** Every order has a byte of the text that no other one has. */
        static final int MOST_ORDERS = TAPE_BYTES;
        /** Seven levels, and each of or, and, <, +, * and a comma may leave one value waiting. */
        static final int MOST_WAITING = 64;

        private final int[] orders = new int[MOST_ORDERS];
        private final int[] operands = new int[MOST_ORDERS];
        private int used;
        private final int[] starts = new int[2 * LETTERS];
        private final int[] ends = new int[2 * LETTERS];
        private final int[] lawStarts = new int[MOST_CLAUSES];
        private final int[] lawEnds = new int[MOST_CLAUSES];
        private int laws;
        private final boolean[] kept = new boolean[LETTERS];
        private final int[] waiting = new int[MOST_WAITING];
        int clauses;

        /** What holds without a lens is a lens, too: A = a and a = A, and so on. */
        Lens() {
            for (int letter = 0; letter < LETTERS; letter++) {
                starts[letter] = addOrder(NEW, letter);
                ends[letter] = used;
                starts[LETTERS + letter] = addOrder(OLD, letter);
                ends[LETTERS + letter] = used;
            }
        }

        void empty() {
            used = 0;
            laws = 0;
            clauses = 0;
            for (int letter = 0; letter < 2 * LETTERS; letter++) {
                starts[letter] = 0;
                ends[letter] = 0;
            }
            for (int letter = 0; letter < LETTERS; letter++) {
                kept[letter] = false;
            }
        }

        void become(Lens other) {
            System.arraycopy(other.orders, 0, orders, 0, MOST_ORDERS);
            System.arraycopy(other.operands, 0, operands, 0, MOST_ORDERS);
            System.arraycopy(other.starts, 0, starts, 0, 2 * LETTERS);
            System.arraycopy(other.ends, 0, ends, 0, 2 * LETTERS);
            System.arraycopy(other.lawStarts, 0, lawStarts, 0, MOST_CLAUSES);
            System.arraycopy(other.lawEnds, 0, lawEnds, 0, MOST_CLAUSES);
            for (int letter = 0; letter < LETTERS; letter++) {
                kept[letter] = other.kept[letter];
            }
            used = other.used;
            laws = other.laws;
            clauses = other.clauses;
        }

        /** Where the order stands, so that a jump can be led to its goal later. */
        int addOrder(int order, int operand) {
            if (used >= MOST_ORDERS) {
                return NONE;
            }
            orders[used] = order;
            operands[used] = operand;
            used++;
            return used - 1;
        }

        void jumpHere(int jump) {
            if (jump >= 0 && jump < used) {
                operands[jump] = used;
            }
        }

        int here() {
            return used;
        }

        void endLetter(int letter, int start) {
            if (letter >= 0 && letter < 2 * LETTERS) {
                starts[letter] = start;
                ends[letter] = used;
            }
        }

        void endLaw(int start) {
            if (laws < MOST_CLAUSES) {
                lawStarts[laws] = start;
                lawEnds[laws] = used;
                laws++;
            }
        }

        void keepLetter(int letter) {
            if (letter >= 0 && letter < LETTERS) {
                kept[letter] = true;
            }
        }

        boolean isKept(int letter) {
            return letter >= 0 && letter < LETTERS && kept[letter];
        }

        void toNew(int[] old, int[] into) {
            for (int letter = 0; letter < LETTERS && letter < into.length; letter++) {
                int at = LETTERS + letter;
                into[letter] = work(starts[at], ends[at], old, old);
            }
        }

        void toBeside(int[] old, int[] into) {
            for (int letter = 0; letter < LETTERS && letter < old.length && letter < into.length; letter++) {
                into[letter] = kept[letter] ? old[letter] : 0;
            }
        }

        /** The array that is filled is neither of the others. */
        void toOld(int[] fresh, int[] beside, int[] into) {
            for (int letter = 0; letter < LETTERS && letter < beside.length && letter < into.length; letter++) {
                into[letter] = starts[letter] < ends[letter]
                        ? work(starts[letter], ends[letter], beside, fresh) : beside[letter];
            }
        }

        boolean isRight(int[] fresh, int[] beside) {
            for (int law = 0; law < laws && law < MOST_CLAUSES; law++) {
                if (work(lawStarts[law], lawEnds[law], beside, fresh) == 0) {
                    return false;
                }
            }
            return true;
        }

        /** The value of the orders from one on, ahead of another; 0 of none. Jumps lead on alone, so it ends. */
        private int work(int start, int end, int[] old, int[] fresh) {
            int top = 0;
            int at = start;
            for (int turn = 0; turn < MOST_ORDERS && at >= 0 && at < end && at < MOST_ORDERS; turn++) {
                int order = orders[at];
                int operand = operands[at];
                at++;
                if (order <= NEW) {
                    if (top >= MOST_WAITING) {
                        return 0;
                    }
                    waiting[top] = valueOf(order, operand, old, fresh);
                    top++;
                } else if (order == JUMP) {
                    at = operand;
                } else if (top < 1) {
                    return 0;
                } else if (order == UNLESS) {
                    top--;
                    at = waiting[top] == 0 ? operand : at;
                } else if (order == NOT) {
                    waiting[top - 1] = 1 - waiting[top - 1];
                } else if (top < 2) {
                    return 0;
                } else {
                    top--;
                    waiting[top - 1] = join(order, waiting[top - 1], waiting[top]);
                }
            }
            return top > 0 ? waiting[top - 1] : 0;
        }

        private static int valueOf(int order, int operand, int[] old, int[] fresh) {
            if (order == NUMBER) {
                return operand;
            }
            int[] row = order == OLD ? old : fresh;
            return operand >= 0 && operand < row.length ? row[operand] : 0;
        }

        private static int join(int order, int left, int right) {
            switch (order) {
                case PLUS: return left + right;
                case MINUS: return left - right;
                case TIMES: return left * right;
                case OVER: return right == 0 ? 0 : left / right;
                case LEAST: return left < right ? left : right;
                case MOST: return left > right ? left : right;
                case BELOW: return left < right ? 1 : 0;
                case ABOVE: return left > right ? 1 : 0;
                case SAME: return left == right ? 1 : 0;
                case AND: return left & right;
                default: return left | right;
            }
        }
    }

    /** Reads the text on the tape into a draft, so that the lens in use stays if there is a fault. */
    private static final class Reader {
        static final int CANT_STAND = 1;
        static final int TOO_GREAT = 2;
        static final int TOO_MANY = 3;
        static final int MOST_OPEN = 6;
        static final int GREATEST_NUMBER = 9999;

        private final int[] text;
        private int length;
        private int at;
        private int open;
        private boolean oldLettersAlone;
        final Lens draft;
        int fault;
        int place;

        Reader(int[] text, Lens draft) {
            this.text = text;
            this.draft = draft;
        }

        boolean readLens(int n) {
            length = Math.min(n, text.length);
            at = 0;
            open = 0;
            fault = 0;
            place = NONE;
            draft.empty();
            for (int turn = 0; turn <= TAPE_BYTES; turn++) {
                skipBlanks();
                if (at >= length) {
                    return true;
                }
                if (!readClause()) {
                    return false;
                }
            }
            return fail(CANT_STAND);
        }

        private boolean readClause() {
            int letter = letterHere();
            boolean keeps = isWord("keep");
            boolean rules = isWord("law");
            if (letter == NONE && !keeps && !rules) {
                return fail(CANT_STAND);
            }
            if (draft.clauses >= Lens.MOST_CLAUSES) {
                return fail(TOO_MANY);
            }
            draft.clauses++;
            oldLettersAlone = letter >= LETTERS;
            if (keeps) {
                return readKeep() && readSign(';');
            }
            return (rules ? readLaw() : readEquals(letter)) && readSign(';');
        }

        private boolean readKeep() {
            at += 4;
            skipBlanks();
            int letter = letterHere();
            if (letter == NONE || letter >= LETTERS) {
                return fail(CANT_STAND);
            }
            at++;
            draft.keepLetter(letter);
            return true;
        }

        private boolean readLaw() {
            at += 3;
            int start = draft.here();
            if (!readAny()) {
                return false;
            }
            draft.endLaw(start);
            return true;
        }

        private boolean readEquals(int letter) {
            at++;
            int start = draft.here();
            if (!readSign('=') || !readSum()) {
                return false;
            }
            draft.endLetter(letter, start);
            return true;
        }

        /** E. */
        private boolean readSum() {
            if (!readProduct()) {
                return false;
            }
            for (int turn = 0; turn < TAPE_BYTES; turn++) {
                boolean plus = isSign('+');
                if (!plus && !isSign('-')) {
                    return true;
                }
                at++;
                if (!readProduct()) {
                    return false;
                }
                draft.addOrder(plus ? Lens.PLUS : Lens.MINUS, 0);
            }
            return fail(CANT_STAND);
        }

        /** T. */
        private boolean readProduct() {
            if (!readUnit()) {
                return false;
            }
            for (int turn = 0; turn < TAPE_BYTES; turn++) {
                boolean times = isSign('*');
                if (!times && !isSign('/')) {
                    return true;
                }
                at++;
                if (!readUnit()) {
                    return false;
                }
                draft.addOrder(times ? Lens.TIMES : Lens.OVER, 0);
            }
            return fail(CANT_STAND);
        }

        /** U. */
        private boolean readUnit() {
            skipBlanks();
            if (isDigit(byteAt(at))) {
                return readNumber();
            }
            int letter = letterHere();
            if (letter != NONE) {
                return readOperand(letter);
            }
            if (isSign('(')) {
                return readOpening('(') && readSum() && readClosing(')');
            }
            if (isWord("least")) {
                at += 5;
                return readPair(Lens.LEAST);
            }
            if (isWord("most")) {
                at += 4;
                return readPair(Lens.MOST);
            }
            if (isWord("if")) {
                at += 2;
                return readIf();
            }
            return fail(CANT_STAND);
        }

        private boolean readNumber() {
            int start = at;
            int number = 0;
            for (int turn = 0; turn < TAPE_BYTES && isDigit(byteAt(at)); turn++) {
                number = Math.min(10 * number + byteAt(at) - '0', GREATEST_NUMBER + 1);
                at++;
            }
            if (number > GREATEST_NUMBER) {
                at = start;
                return fail(TOO_GREAT);
            }
            draft.addOrder(Lens.NUMBER, number);
            return true;
        }

        private boolean readOperand(int letter) {
            if (oldLettersAlone && letter >= LETTERS) {
                return fail(CANT_STAND);
            }
            at++;
            if (letter >= LETTERS) {
                draft.addOrder(Lens.NEW, letter - LETTERS);
            } else {
                draft.addOrder(Lens.OLD, letter);
            }
            return true;
        }

        private boolean readPair(int order) {
            if (!readOpening('(') || !readSum() || !readSign(',') || !readSum() || !readClosing(')')) {
                return false;
            }
            draft.addOrder(order, 0);
            return true;
        }

        private boolean readIf() {
            if (!readOpening('(') || !readAny() || !readSign(',')) {
                return false;
            }
            int unless = draft.addOrder(Lens.UNLESS, 0);
            if (!readSum() || !readSign(',')) {
                return false;
            }
            int jump = draft.addOrder(Lens.JUMP, 0);
            draft.jumpHere(unless);
            if (!readSum() || !readClosing(')')) {
                return false;
            }
            draft.jumpHere(jump);
            return true;
        }

        /** C. */
        private boolean readAny() {
            if (!readAll()) {
                return false;
            }
            for (int turn = 0; turn < TAPE_BYTES; turn++) {
                skipBlanks();
                if (!isWord("or")) {
                    return true;
                }
                at += 2;
                if (!readAll()) {
                    return false;
                }
                draft.addOrder(Lens.OR, 0);
            }
            return fail(CANT_STAND);
        }

        /** P. */
        private boolean readAll() {
            if (!readTest()) {
                return false;
            }
            for (int turn = 0; turn < TAPE_BYTES; turn++) {
                skipBlanks();
                if (!isWord("and")) {
                    return true;
                }
                at += 3;
                if (!readTest()) {
                    return false;
                }
                draft.addOrder(Lens.AND, 0);
            }
            return fail(CANT_STAND);
        }

        /** B. */
        private boolean readTest() {
            skipBlanks();
            if (isWord("not")) {
                return readNot();
            }
            if (isSign('[')) {
                return readOpening('[') && readAny() && readClosing(']');
            }
            return readComparison();
        }

        private boolean readNot() {
            if (open >= MOST_OPEN) {
                return fail(TOO_MANY);
            }
            open++;
            at += 3;
            if (!readTest()) {
                return false;
            }
            open--;
            draft.addOrder(Lens.NOT, 0);
            return true;
        }

        private boolean readComparison() {
            if (!readSum()) {
                return false;
            }
            int order;
            if (isSign('<')) {
                order = Lens.BELOW;
            } else if (isSign('>')) {
                order = Lens.ABOVE;
            } else if (isSign('=')) {
                order = Lens.SAME;
            } else {
                return fail(CANT_STAND);
            }
            at++;
            if (!readSum()) {
                return false;
            }
            draft.addOrder(order, 0);
            return true;
        }

        /** What is open bounds how deep the reading goes, so no more of it is ever begun. */
        private boolean readOpening(char sign) {
            if (!isSign(sign)) {
                return fail(CANT_STAND);
            }
            if (open >= MOST_OPEN) {
                return fail(TOO_MANY);
            }
            open++;
            at++;
            return true;
        }

        private boolean readClosing(char sign) {
            if (!isSign(sign)) {
                return fail(CANT_STAND);
            }
            open--;
            at++;
            return true;
        }

        private boolean readSign(char sign) {
            if (!isSign(sign)) {
                return fail(CANT_STAND);
            }
            at++;
            return true;
        }

        private boolean isSign(char sign) {
            skipBlanks();
            return byteAt(at) == sign;
        }

        /** All the small letters that stand here are the word's: of a longer run it is no part. */
        private boolean isWord(String word) {
            for (int i = 0; i < word.length(); i++) {
                if (byteAt(at + i) != word.charAt(i)) {
                    return false;
                }
            }
            return !isSmall(byteAt(at + word.length()));
        }

        private int letterHere() {
            int sign = byteAt(at);
            int next = byteAt(at + 1);
            if (isSmall(next) || isCapital(next)) {
                return NONE;
            }
            if (sign >= 'a' && sign <= 'd') {
                return sign - 'a';
            }
            return sign >= 'A' && sign <= 'D' ? LETTERS + sign - 'A' : NONE;
        }

        private void skipBlanks() {
            for (int turn = 0; turn < TAPE_BYTES && at >= 0 && at < length && at < text.length; turn++) {
                if (text[at] != ' ') {
                    return;
                }
                at++;
            }
        }

        private int byteAt(int i) {
            return i >= 0 && i < length && i < text.length ? text[i] : NONE;
        }

        private static boolean isDigit(int sign) {
            return sign >= '0' && sign <= '9';
        }

        private static boolean isSmall(int sign) {
            return sign >= 'a' && sign <= 'z';
        }

        private static boolean isCapital(int sign) {
            return sign >= 'A' && sign <= 'Z';
        }

        private boolean fail(int kind) {
            fault = kind;
            place = at;
            return false;
        }
    }

    /** The rows that a lens is tried on, numbered by a, then b, c, d, rising. */
    private static final class Box {
        private final Lens lens;
        private final int[] least = new int[LETTERS];
        private final int[] greatest = new int[LETTERS];
        private final int[] old = new int[LETTERS];
        private final int[] fresh = new int[LETTERS];
        private final int[] beside = new int[LETTERS];
        private final int[] again = new int[LETTERS];
        private final int[] freshAgain = new int[LETTERS];
        private Likes likes;

        Box(Lens lens) {
            this.lens = lens;
            likes = null;
        }

        void bound(int letter, int from, int to) {
            if (letter >= 0 && letter < LETTERS) {
                least[letter] = from;
                greatest[letter] = to;
            }
        }

        int firstUnlike(int kind, int letter) {
            int rows = manyBoxed();
            for (int number = 0; number < rows; number++) {
                if (!comesBack(number, kind)) {
                    return letter >= 0 && letter < LETTERS ? old[letter] : VOID;
                }
            }
            return VOID;
        }

        int manyUnlike(int kind) {
            int rows = manyBoxed();
            int many = 0;
            for (int number = 0; number < rows; number++) {
                many += comesBack(number, kind) ? 0 : 1;
            }
            return many;
        }

        int manyWrong() {
            int rows = manyBoxed();
            int many = 0;
            for (int number = 0; number < rows; number++) {
                seeRow(number);
                many += lens.isRight(fresh, beside) ? 0 : 1;
            }
            return many;
        }

        /**
         * Each row is set against the first one like it alone: of two that are unlike in a letter,
         * one is unlike the first in it, too.
         */
        int lostLetters() {
            if (likes == null) {
                likes = new Likes();
            }
            likes.forget();
            int rows = manyBoxed();
            int bits = 0;
            for (int number = 0; number < rows; number++) {
                seeRow(number);
                int like = likes.firstLike(number, fresh, beside);
                fillRow(like, again);
                for (int letter = 0; letter < LETTERS; letter++) {
                    bits |= !lens.isKept(letter) && again[letter] != old[letter] ? 1 << letter : 0;
                }
            }
            return bits;
        }

        private boolean comesBack(int number, int kind) {
            seeRow(number);
            lens.toOld(fresh, beside, again);
            if (kind == 0) {
                return areAlike(again, old);
            }
            lens.toNew(again, freshAgain);
            return areAlike(freshAgain, fresh);
        }

        private void seeRow(int number) {
            fillRow(number, old);
            lens.toNew(old, fresh);
            lens.toBeside(old, beside);
        }

        private int manyBoxed() {
            int many = 1;
            for (int letter = 0; letter < LETTERS; letter++) {
                many *= greatest[letter] - least[letter] + 1;
            }
            return Math.min(many, BOX_ROWS);
        }

        private void fillRow(int number, int[] into) {
            int rest = number;
            for (int letter = LETTERS - 1; letter >= 0 && letter < into.length; letter--) {
                int width = Math.max(greatest[letter] - least[letter] + 1, 1);
                into[letter] = least[letter] + rest % width;
                rest /= width;
            }
        }
    }

    /** A hash table of what rows are seen as and keep beside: setting every row against every other is too slow. */
    private static final class Likes {
        static final int PLACES = 2 * BOX_ROWS;
        static final int WIDTH = 2 * LETTERS;

        private final int[] first = new int[PLACES];
        private final int[] seen = new int[BOX_ROWS * WIDTH];

        void forget() {
            for (int i = 0; i < PLACES; i++) {
                first[i] = NONE;
            }
        }

        /** The number of the first row that was like this one: its own, if none was. */
        int firstLike(int number, int[] fresh, int[] beside) {
            keepSeen(number, fresh, beside);
            int place = placeOf(fresh, beside);
            for (int turn = 0; turn < PLACES; turn++) {
                int other = first[place];
                if (other == NONE) {
                    first[place] = number;
                    return number;
                }
                if (isSameSeen(other, number)) {
                    return other;
                }
                place = (place + 1) & (PLACES - 1);
            }
            return number;
        }

        private void keepSeen(int number, int[] fresh, int[] beside) {
            if (number < 0 || number >= BOX_ROWS || fresh.length < LETTERS || beside.length < LETTERS) {
                return;
            }
            System.arraycopy(fresh, 0, seen, number * WIDTH, LETTERS);
            System.arraycopy(beside, 0, seen, number * WIDTH + LETTERS, LETTERS);
        }

        private boolean isSameSeen(int one, int other) {
            if (one < 0 || one >= BOX_ROWS || other < 0 || other >= BOX_ROWS) {
                return false;
            }
            for (int i = 0; i < WIDTH; i++) {
                if (seen[one * WIDTH + i] != seen[other * WIDTH + i]) {
                    return false;
                }
            }
            return true;
        }

        private static int placeOf(int[] fresh, int[] beside) {
            int mix = 17;
            for (int letter = 0; letter < fresh.length; letter++) {
                mix = (mix ^ fresh[letter]) * 0x9E3779B1;
                mix ^= mix >>> 15;
            }
            for (int letter = 0; letter < beside.length; letter++) {
                mix = (mix ^ beside[letter]) * 0x85EBCA6B;
                mix ^= mix >>> 13;
            }
            return mix & (PLACES - 1);
        }
    }

    /** Changes, programs, and what was told of them. */
    private static final class Plan {
        static final int NEED_OLD = 1;
        static final int NEED_NEW = 2;
        /** Bit by bit the stages at which each form can be asked. */
        static final int OLD_STAGES = 15;
        static final int NEW_STAGES = 60;
        static final int ALL_STAGES = 63;
        static final int[] POWERS = {1, 6, 36, 216};

        private final int[] holds = new int[MOST_CHANGES * LAST_STAGE];
        private final int[] needs = new int[MOST_PROGRAMS * MOST_CHANGES];
        private final int[] prices = new int[MOST_PROGRAMS];
        private final boolean[] orders = new boolean[MOST_CHANGES * MOST_CHANGES];
        private final boolean[] bars = new boolean[MOST_CHANGES * MOST_CHANGES];
        int changes;
        int programs;
        /** Grows with all that is told, so that what was worked out of it is known to be old. */
        int age;

        Plan() {
            for (int i = 0; i < MOST_CHANGES * LAST_STAGE; i++) {
                holds[i] = i % LAST_STAGE + 1;
            }
            for (int program = 0; program < MOST_PROGRAMS; program++) {
                prices[program] = 5;
            }
            age = 1;
        }

        int addChange() {
            if (changes >= MOST_CHANGES) {
                return NONE;
            }
            changes++;
            age++;
            return changes - 1;
        }

        int addProgram() {
            if (programs >= MOST_PROGRAMS) {
                return NONE;
            }
            programs++;
            age++;
            return programs - 1;
        }

        int tellHold(int change, int stage, int v) {
            return tell(holds, change * LAST_STAGE + stage, v);
        }

        int tellNeed(int program, int change, int kind) {
            return tell(needs, program * MOST_CHANGES + change, kind);
        }

        int tellPrice(int program, int v) {
            return tell(prices, program, v);
        }

        private int tell(int[] told, int at, int v) {
            if (at < 0 || at >= told.length) {
                return NONE;
            }
            int was = told[at];
            told[at] = v;
            age++;
            return was;
        }

        boolean tellOrder(int above, int below) {
            return tellPair(orders, above, below);
        }

        boolean tellBar(int one, int other) {
            return tellPair(bars, Math.min(one, other), Math.max(one, other));
        }

        private boolean tellPair(boolean[] told, int one, int other) {
            int at = one * MOST_CHANGES + other;
            if (at < 0 || at >= told.length || told[at]) {
                return false;
            }
            told[at] = true;
            age++;
            return true;
        }

        int holdAt(int change, int stage) {
            int at = change * LAST_STAGE + stage;
            return at >= 0 && at < holds.length ? holds[at] : 0;
        }

        int priceOf(int program) {
            return program >= 0 && program < prices.length ? prices[program] : 0;
        }

        int manyNodes() {
            return power(changes);
        }

        int manySets() {
            return 1 << programs;
        }

        static int power(int change) {
            return change >= 0 && change < POWERS.length ? POWERS[change] : 1;
        }

        static int stageOf(int node, int change) {
            int power = power(change);
            return power == 0 ? 0 : node / power % STAGES;
        }

        boolean isStanding(int node, int rewritten) {
            for (int change = 0; change < changes; change++) {
                if ((stagesFor(change, rewritten) >> stageOf(node, change) & 1) == 0) {
                    return false;
                }
            }
            return keepsPairs(node);
        }

        /** The stages of a change, as bits, at which every program has what it needs. */
        int stagesFor(int change, int rewritten) {
            int stages = ALL_STAGES;
            for (int program = 0; program < programs; program++) {
                int at = program * MOST_CHANGES + change;
                int need = at >= 0 && at < needs.length ? needs[at] : 0;
                boolean isRewritten = (rewritten >> program & 1) == 1;
                if (need == NEED_NEW || need == NEED_OLD && isRewritten) {
                    stages &= NEW_STAGES;
                } else if (need == NEED_OLD) {
                    stages &= OLD_STAGES;
                }
            }
            return stages;
        }

        boolean keepsPairs(int node) {
            for (int one = 0; one < MOST_CHANGES; one++) {
                int stage = stageOf(node, one);
                for (int other = 0; other < MOST_CHANGES; other++) {
                    int at = one * MOST_CHANGES + other;
                    int second = stageOf(node, other);
                    if (orders[at] && second > stage || bars[at] && isUnderWay(stage) && isUnderWay(second)) {
                        return false;
                    }
                }
            }
            return true;
        }

        private static boolean isUnderWay(int stage) {
            return stage >= 1 && stage <= 4;
        }
    }

    /**
     * For every node how its best way weighs, worked out from the goals backwards. Rewriting only adds
     * programs, so the sets of rewritten ones are settled one by one, the greatest first.
     */
    private static final class Ways {
        /** More than the steps of any best way, so that one number orders by holding up, then by steps. */
        static final int HOLDING = 2048;
        static final int NO_WAY = Integer.MAX_VALUE;
        static final int MOST_NODES = 216;
        static final int MOST_SETS = 32;
        static final int STEPS = 2 * MOST_CHANGES + MOST_PROGRAMS;

        private final Plan plan;
        private final boolean[] standing = new boolean[MOST_NODES * MOST_SETS];
        private final int[] weight = new int[MOST_NODES * MOST_SETS];
        private final int[] rewritings = new int[MOST_NODES * MOST_SETS];
        private final boolean[] backs = new boolean[MOST_NODES * MOST_SETS];
        private final boolean[] pairsKept = new boolean[MOST_NODES];
        private final int[] stages = new int[MOST_CHANGES];
        private int nodes;
        private int age;

        Ways(Plan plan) {
            this.plan = plan;
            nodes = 1;
            age = 0;
        }

        void workIfStale() {
            if (age == plan.age) {
                return;
            }
            age = plan.age;
            nodes = Math.min(plan.manyNodes(), MOST_NODES);
            for (int node = 0; node < nodes; node++) {
                pairsKept[node] = plan.keepsPairs(node);
            }
            for (int set = Math.min(plan.manySets(), MOST_SETS) - 1; set >= 0; set--) {
                beginSet(set);
                settleSet(set);
            }
        }

        private void beginSet(int set) {
            for (int change = 0; change < MOST_CHANGES; change++) {
                stages[change] = plan.stagesFor(change, set);
            }
            for (int node = 0; node < nodes; node++) {
                int at = set * nodes + node;
                boolean isStanding = pairsKept[node] && hasStages(node);
                boolean isGoal = isStanding && node == nodes - 1;
                standing[at] = isStanding;
                weight[at] = isGoal ? 0 : NO_WAY;
                rewritings[at] = isGoal ? 0 : NO_WAY;
                backs[at] = isStanding && node == 0;
                for (int program = 0; isStanding && program < plan.programs; program++) {
                    int next = set | 1 << program;
                    if (next != set) {
                        learn(at, next * nodes + node, plan.priceOf(program), 1);
                    }
                }
            }
        }

        private boolean hasStages(int node) {
            for (int change = 0; change < plan.changes && change < MOST_CHANGES; change++) {
                if ((stages[change] >> Plan.stageOf(node, change) & 1) == 0) {
                    return false;
                }
            }
            return true;
        }

        /** From the highest node down: steps further are then learnt in one sweep, and steps back need few more. */
        private void settleSet(int set) {
            boolean learnt = true;
            for (int sweep = 0; learnt && sweep <= 2 * MOST_NODES; sweep++) {
                learnt = false;
                for (int node = nodes - 1; node >= 0; node--) {
                    int at = set * nodes + node;
                    for (int step = 0; standing[at] && step < 2 * MOST_CHANGES; step++) {
                        int next = nextOf(node, set, step);
                        if (learn(at, next, holdingOf(node, step), 0)) {
                            learnt = true;
                        }
                    }
                }
            }
        }

        private boolean learn(int at, int next, int holding, int rewriting) {
            if (!isPlace(at) || !isPlace(next)) {
                return false;
            }
            boolean learnt = false;
            if (weight[next] != NO_WAY && weight[next] + holding * HOLDING + 1 < weight[at]) {
                weight[at] = weight[next] + holding * HOLDING + 1;
                learnt = true;
            }
            if (rewritings[next] != NO_WAY && rewritings[next] + rewriting < rewritings[at]) {
                rewritings[at] = rewritings[next] + rewriting;
                learnt = true;
            }
            if (backs[next] && !backs[at]) {
                backs[at] = true;
                learnt = true;
            }
            return learnt;
        }

        /** Where a step leads, as a place in the arrays; NONE, if it can't be done there. */
        private int nextOf(int node, int set, int step) {
            int at = set * nodes + node;
            if (step >= 2 * MOST_CHANGES) {
                int program = step - 2 * MOST_CHANGES;
                boolean can = program < plan.programs && (set >> program & 1) == 0;
                return can ? at + (nodes << program) : NONE;
            }
            int change = step % MOST_CHANGES;
            if (change >= plan.changes) {
                return NONE;
            }
            int stage = Plan.stageOf(node, change);
            if (step < MOST_CHANGES) {
                return stage < LAST_STAGE ? at + Plan.power(change) : NONE;
            }
            return stage >= 1 && stage < LAST_STAGE ? at - Plan.power(change) : NONE;
        }

        private int holdingOf(int node, int step) {
            if (step < MOST_CHANGES) {
                return plan.holdAt(step, Plan.stageOf(node, step));
            }
            return step < 2 * MOST_CHANGES ? 1 : plan.priceOf(step - 2 * MOST_CHANGES);
        }

        private int placeOf(int node, int set) {
            int at = set * nodes + node;
            return isPlace(at) ? at : 0;
        }

        private static boolean isPlace(int at) {
            return at >= 0 && at < MOST_NODES * MOST_SETS;
        }

        int partOfWay(int node, int rewritten, int what) {
            int at = placeOf(node, rewritten);
            if (weight[at] == NO_WAY) {
                return NONE;
            }
            if (what == -1) {
                return weight[at] / HOLDING;
            }
            int steps = weight[at] % HOLDING;
            if (what == -2) {
                return steps;
            }
            return what >= 0 && what < steps ? stepOfWay(at, what) : NONE;
        }

        private int stepOfWay(int start, int which) {
            int at = start;
            for (int done = 0; done < which && done < HOLDING; done++) {
                at = behind(at, bestStep(at));
            }
            return bestStep(at);
        }

        /** The first step that loses nothing of the best weight. */
        private int bestStep(int at) {
            int node = at % Math.max(nodes, 1);
            int set = at / Math.max(nodes, 1);
            for (int step = 0; isPlace(at) && step < STEPS; step++) {
                int next = nextOf(node, set, step);
                if (isPlace(next) && weight[next] != NO_WAY
                        && weight[next] + holdingOf(node, step) * HOLDING + 1 == weight[at]) {
                    return step;
                }
            }
            return NONE;
        }

        private int behind(int at, int step) {
            if (step < 0) {
                return at;
            }
            int next = nextOf(at % Math.max(nodes, 1), at / Math.max(nodes, 1), step);
            return isPlace(next) ? next : at;
        }

        int fewestRewritten(int node, int rewritten) {
            int many = rewritings[placeOf(node, rewritten)];
            return many == NO_WAY ? NONE : many;
        }

        boolean hasBack(int node, int rewritten) {
            return backs[placeOf(node, rewritten)];
        }

        int lastBack(int node, int rewritten) {
            int at = placeOf(node, rewritten);
            if (weight[at] == NO_WAY) {
                return NONE;
            }
            int steps = weight[at] % HOLDING;
            int last = backs[at] ? 0 : NONE;
            for (int done = 1; done <= steps; done++) {
                at = behind(at, bestStep(at));
                last = backs[at] ? done : last;
            }
            return last;
        }
    }

    /** When which program asked for which letter; NONE for never. */
    private static final class Asked {
        static final int SLOTS = ASKERS * 2 * LETTERS * 2;

        private final int[] ticks = new int[SLOTS];

        Asked() {
            for (int i = 0; i < SLOTS; i++) {
                ticks[i] = NONE;
            }
        }

        private static int slot(int program, int form, int letter, boolean written) {
            int at = ((program * 2 + form) * LETTERS + letter) * 2 + (written ? 1 : 0);
            return at >= 0 && at < SLOTS ? at : 0;
        }

        void note(int program, int form, int letter, boolean written, int tick) {
            ticks[slot(program, form, letter, written)] = tick;
        }

        int latest(int program, int form, int letter, boolean written) {
            return ticks[slot(program, form, letter, written)];
        }

        int oldAskers(int letter, int from) {
            int bits = 0;
            for (int program = 0; program < ASKERS; program++) {
                int tick = Math.max(latest(program, 0, letter, false), latest(program, 0, letter, true));
                bits |= tick != NONE && tick >= from ? 1 << program : 0;
            }
            return bits;
        }

        boolean isOldAsked(int from) {
            for (int letter = 0; letter < LETTERS; letter++) {
                if (oldAskers(letter, from) != 0) {
                    return true;
                }
            }
            return false;
        }
    }

    /** What is held of one row; which of it counts depends on what the row is. */
    private static final class Row {
        static final int OLD_ALONE = 0;
        static final int LED = 1;
        static final int NEW_ALONE = 2;
        static final int PUT_BY = 3;

        final int[] old = new int[LETTERS];
        final int[] fresh = new int[LETTERS];
        final int[] beside = new int[LETTERS];
        /** NONE for a row that is not there. */
        int kind;
        private int since;
        private int by;
        private int writtenAt;
        private final boolean[] written = new boolean[2];

        Row() {
            kind = NONE;
            since = NONE;
            by = NONE;
            writtenAt = NONE;
        }

        void begin() {
            for (int letter = 0; letter < LETTERS; letter++) {
                old[letter] = 0;
                fresh[letter] = 0;
                beside[letter] = 0;
            }
            kind = OLD_ALONE;
            writtenAt = NONE;
            heal();
        }

        void heal() {
            since = NONE;
            by = NONE;
        }

        /** A row that is broken already stays so since the write that broke it. */
        void breakBy(int program, int tick) {
            if (!isBroken()) {
                since = tick;
                by = program;
            }
        }

        boolean isBroken() {
            return kind != NONE && since != NONE;
        }

        int brokenSince() {
            return since;
        }

        int brokenBy() {
            return by;
        }

        boolean hasOld() {
            return kind == OLD_ALONE || kind == LED || kind == PUT_BY;
        }

        boolean hasNew() {
            return kind == LED || kind == NEW_ALONE;
        }

        boolean isWritten(int form, int tick) {
            return writtenAt == tick && form >= 0 && form < written.length && written[form];
        }

        void noteWritten(int form, int tick) {
            if (writtenAt != tick) {
                written[0] = false;
                written[1] = false;
                writtenAt = tick;
            }
            if (form >= 0 && form < written.length) {
                written[form] = true;
            }
        }
    }

    /** The rows, and the stage that they are led through. */
    private static final class Table {
        private final Lens lens;
        private final Asked asked;
        private final Row[] rows = new Row[KEYS];
        /** Rows to work with, used again by every call. */
        final int[] oldNow = new int[LETTERS];
        final int[] newNow = new int[LETTERS];
        final int[] besideNow = new int[LETTERS];
        int stage;
        int now;
        int firstForm;
        int fallAt;
        int quietTicks;

        Table(Lens lens, Asked asked) {
            this.lens = lens;
            this.asked = asked;
            for (int key = 0; key < KEYS; key++) {
                rows[key] = new Row();
            }
            quietTicks = 10;
        }

        boolean isThere(int key) {
            return key >= 0 && key < KEYS && rows[key].kind != NONE;
        }

        int goOn() {
            if (stage >= LAST_STAGE) {
                return -1;
            }
            if (!mayGoOn()) {
                return 0;
            }
            stage++;
            if (stage == LAST_STAGE) {
                dropOldForm();
            }
            return 1;
        }

        private boolean mayGoOn() {
            if (stage >= 2 && manyOf(Row.OLD_ALONE) > 0) {
                return false;
            }
            if (stage >= 3 && manyOf(Row.PUT_BY) > 0) {
                return false;
            }
            if (stage == 3) {
                return manyBroken() == 0 && manyOdd() == 0;
            }
            return stage != 4 || !asked.isOldAsked(now - quietTicks);
        }

        private void dropOldForm() {
            for (int key = 0; key < KEYS; key++) {
                Row row = rows[key];
                if (row.kind == Row.LED) {
                    row.kind = Row.NEW_ALONE;
                }
            }
        }

        int goBack() {
            if (stage < 1 || stage >= LAST_STAGE) {
                return 0;
            }
            stage--;
            if (stage == 1) {
                dropNewForm();
            }
            return 1;
        }

        private void dropNewForm() {
            for (int key = 0; key < KEYS; key++) {
                Row row = rows[key];
                if (row.kind != NONE) {
                    row.kind = Row.OLD_ALONE;
                    row.heal();
                }
            }
        }

        int addRow(int key) {
            if (key < 0 || key >= KEYS || isThere(key)) {
                return -1;
            }
            Row row = rows[key];
            row.begin();
            if (stage == LAST_STAGE) {
                seeAnew(row);
                row.kind = Row.NEW_ALONE;
            } else if (stage >= 3) {
                lead(row);
            }
            return row.kind;
        }

        boolean dropRow(int key) {
            if (!isThere(key)) {
                return false;
            }
            rows[key].kind = NONE;
            return true;
        }

        private void seeAnew(Row row) {
            lens.toNew(row.old, row.fresh);
            lens.toBeside(row.old, row.beside);
        }

        private void lead(Row row) {
            seeAnew(row);
            row.kind = lens.isRight(row.fresh, row.beside) ? Row.LED : Row.PUT_BY;
        }

        private void oldAsIf(Row row, int[] into) {
            if (row.hasOld()) {
                copyLetters(row.old, into);
            } else {
                lens.toOld(row.fresh, row.beside, into);
            }
        }

        private void newAsIf(Row row, int[] into) {
            if (row.hasNew()) {
                copyLetters(row.fresh, into);
            } else {
                lens.toNew(row.old, into);
            }
        }

        private void besideAsIf(Row row, int[] into) {
            if (row.hasNew()) {
                copyLetters(row.beside, into);
            } else {
                lens.toBeside(row.old, into);
            }
        }

        private static void copyLetters(int[] from, int[] into) {
            if (from.length >= LETTERS && into.length >= LETTERS) {
                System.arraycopy(from, 0, into, 0, LETTERS);
            }
        }

        int readLetter(int program, int key, int form, int letter) {
            if (!isThere(key) || letter < 0 || letter >= LETTERS) {
                return NONE;
            }
            asked.note(program, form, letter, false, now);
            if (form == 0) {
                oldAsIf(rows[key], oldNow);
                return oldNow[letter];
            }
            newAsIf(rows[key], newNow);
            return newNow[letter];
        }

        boolean writeLetter(int program, int key, int form, int letter, int v) {
            if (!isThere(key) || letter < 0 || letter >= LETTERS) {
                return false;
            }
            Row row = rows[key];
            if (form != firstForm && row.isWritten(1 - form, now)) {
                return false;
            }
            row.noteWritten(form, now);
            asked.note(program, form, letter, true, now);
            if (form == 0) {
                writeOld(row, letter, v);
            } else {
                writeNew(row, letter, v);
            }
            if (row.kind == Row.PUT_BY) {
                row.kind = Row.OLD_ALONE;
            }
            if (row.hasNew() && !lens.isRight(row.fresh, row.beside)) {
                row.breakBy(program, now);
            } else {
                row.heal();
            }
            return true;
        }

        private void writeOld(Row row, int letter, int v) {
            oldAsIf(row, oldNow);
            if (letter >= 0 && letter < LETTERS) {
                oldNow[letter] = v;
            }
            copyLetters(oldNow, row.old);
            if (row.hasNew()) {
                seeAnew(row);
            }
        }

        private void writeNew(Row row, int letter, int v) {
            newAsIf(row, newNow);
            besideAsIf(row, besideNow);
            if (letter >= 0 && letter < LETTERS) {
                newNow[letter] = v;
            }
            if (row.hasNew()) {
                copyLetters(newNow, row.fresh);
            }
            if (row.hasOld()) {
                lens.toOld(newNow, besideNow, row.old);
            }
        }

        int leadRows(int n) {
            int taken = Math.min(n, manyOf(Row.OLD_ALONE));
            boolean falls = fallAt >= 1 && fallAt <= taken;
            fallAt = 0;
            if (falls) {
                return -1;
            }
            int left = taken;
            for (int key = 0; key < KEYS && left > 0; key++) {
                if (rows[key].kind == Row.OLD_ALONE) {
                    lead(rows[key]);
                    left--;
                }
            }
            return taken;
        }

        int tellRow(int key, int what) {
            if (!isThere(key)) {
                return NONE;
            }
            Row row = rows[key];
            switch (what) {
                case 0: return row.kind;
                case 1: return row.isBroken() ? 1 : 0;
                case 2: return row.brokenSince();
                case 3: return row.brokenBy();
                case 4: return isOdd(row) ? 1 : 0;
                default: return tellBeside(row, what - 5);
            }
        }

        private int tellBeside(Row row, int letter) {
            besideAsIf(row, besideNow);
            return letter >= 0 && letter < LETTERS ? besideNow[letter] : NONE;
        }

        private boolean isOdd(Row row) {
            if (row.kind != Row.LED) {
                return false;
            }
            lens.toNew(row.old, newNow);
            return !areAlike(newNow, row.fresh);
        }

        boolean mendRow(int key) {
            if (!isThere(key) || !isOdd(rows[key])) {
                return false;
            }
            seeAnew(rows[key]);
            return true;
        }

        int sumOf(int from, int to) {
            int together = 0;
            for (int key = Math.max(from, 0); key <= to && key < KEYS; key++) {
                Row row = rows[key];
                if (row.kind == Row.LED) {
                    lens.toNew(row.old, newNow);
                    together += weigh(row.fresh) - weigh(newNow);
                }
            }
            return together;
        }

        private static int weigh(int[] fresh) {
            if (fresh.length < LETTERS) {
                return 0;
            }
            return fresh[0] + 3 * fresh[1] + 5 * fresh[2] + 7 * fresh[3];
        }

        int halve(int from, int to) {
            if (sumOf(from, to) == 0) {
                return NONE;
            }
            int low = from;
            int high = to;
            for (int turn = 0; turn < KEYS && low < high; turn++) {
                int middle = (low + high) / 2;
                if (sumOf(low, middle) != 0) {
                    high = middle;
                } else {
                    low = middle + 1;
                }
            }
            return low;
        }

        int manyRows() {
            int many = 0;
            for (int key = 0; key < KEYS; key++) {
                many += rows[key].kind != NONE ? 1 : 0;
            }
            return many;
        }

        int manyOf(int kind) {
            int many = 0;
            for (int key = 0; key < KEYS; key++) {
                many += rows[key].kind == kind ? 1 : 0;
            }
            return many;
        }

        int manyBroken() {
            int many = 0;
            for (int key = 0; key < KEYS; key++) {
                many += rows[key].isBroken() ? 1 : 0;
            }
            return many;
        }

        int manyOdd() {
            int many = 0;
            for (int key = 0; key < KEYS; key++) {
                many += isOdd(rows[key]) ? 1 : 0;
            }
            return many;
        }
    }
}
