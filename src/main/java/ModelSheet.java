import java.util.Arrays;
import java.util.NoSuchElementException;

/**
 * A sheet of cells in three dimensions whose members form trees. What each call promises stands in
 * ../shared/DOC.md; README.md tells how the parts below go together.
 */
public final class ModelSheet {
    public static final int NUMBER = 0, EMPTY = 1, RING = 2, OVERFLOW = 3, DIVISION = 4;

    private static final int DIMENSIONS = 3;
    private static final int MEMBERS = 6;
    private static final int CELLS = 216;
    private static final int[] SPAN = {36, 6, 1};
    private static final int NOBODY = -1;

    private static final int ROLLS = 5;
    private static final int KINDS = 3;
    private static final int RULES = 8;
    private static final int LAYERS = 3;
    private static final int EDITS = 12;
    private static final int LARGEST = 2000000000;
    private static final int MOST_FUEL = 2000;

    private final Space space;
    private final RuleBook book;
    private final Grid grid;
    private final History history;
    private final Calculator calculator;
    private final Spreader spreader;
    private final Pad pad;
    private final Rule draft;
    private final Reader reader;
    private final int[] cursor;

    public ModelSheet() {
        Space newSpace = new Space();
        RuleBook newBook = new RuleBook();
        Grid newGrid = new Grid();
        Pad newPad = new Pad();
        Rule newDraft = new Rule();
        space = newSpace;
        book = newBook;
        grid = newGrid;
        history = new History(newGrid);
        calculator = new Calculator(newSpace, newBook, newGrid);
        spreader = new Spreader(newSpace, newBook, newGrid);
        pad = newPad;
        draft = newDraft;
        reader = new Reader(newPad, newDraft);
        cursor = new int[DIMENSIONS];
    }

    public int member(int dimension, int parent, int roll)
            throws java.util.NoSuchElementException, IllegalArgumentException, IllegalStateException {
        if (!space.canHang(dimension, parent)) {
            throw new NoSuchElementException();
        }
        if (roll < 0 || roll >= ROLLS) {
            throw new IllegalArgumentException();
        }
        Tree tree = space.trees[dimension];
        if (tree.size >= MEMBERS) {
            throw new IllegalStateException();
        }
        history.forget();
        return tree.grow(parent, roll);
    }

    public int move(int dimension, int member, int parent)
            throws java.util.NoSuchElementException, IllegalArgumentException {
        if (!space.has(dimension, member) || !space.canHang(dimension, parent)) {
            throw new NoSuchElementException();
        }
        Tree tree = space.trees[dimension];
        if (tree.isWithin(parent, member)) {
            throw new IllegalArgumentException();
        }
        history.forget();
        tree.hang(member, parent);
        return tree.depth[member];
    }

    public int drop(int dimension, int member)
            throws java.util.NoSuchElementException, IllegalStateException {
        if (!space.has(dimension, member)) {
            throw new NoSuchElementException();
        }
        Tree tree = space.trees[dimension];
        if (!tree.isLeaf(member) || book.names(dimension, member)) {
            throw new IllegalStateException();
        }
        history.forget();
        tree.cut(member);
        draft.forgetPattern(dimension, member);
        return grid.wipe(dimension, member);
    }

    public int at(int dimension, int member)
            throws java.util.NoSuchElementException, IllegalArgumentException {
        if (dimension < 0 || dimension >= DIMENSIONS) {
            throw new NoSuchElementException();
        }
        if (member < 0 || member >= MEMBERS) {
            throw new IllegalArgumentException();
        }
        int before = cursor[dimension];
        cursor[dimension] = member;
        return before;
    }

    public void pattern(int dimension, int kind, int member)
            throws java.util.NoSuchElementException, IllegalArgumentException {
        boolean named = kind == Rule.JUST || kind == Rule.LEAVES;
        if (dimension < 0 || dimension >= DIMENSIONS || named && !space.has(dimension, member)) {
            throw new NoSuchElementException();
        }
        if (kind < 0 || kind >= KINDS) {
            throw new IllegalArgumentException();
        }
        draft.kinds[dimension] = kind;
        draft.members[dimension] = named ? member : 0;
    }

    public boolean type(char c) {
        return pad.add(c);
    }

    public int rule() throws IllegalStateException {
        if (book.size >= RULES) {
            throw new IllegalStateException();
        }
        int fault = reader.findFault();
        if (fault < 0) {
            book.adopt(draft);
            history.forget();
        }
        draft.clear();
        pad.clear();
        return fault + 1;
    }

    public int dropRule(int rule) throws java.util.NoSuchElementException {
        if (rule < 0 || rule >= book.size) {
            throw new NoSuchElementException();
        }
        history.forget();
        book.strike(rule);
        return book.size;
    }

    public void put(int layer, int v)
            throws java.util.NoSuchElementException, IllegalArgumentException, IllegalStateException {
        if (!canLook(layer)) {
            throw new NoSuchElementException();
        }
        if (!Amount.isInRange(v)) {
            throw new IllegalArgumentException();
        }
        int cell = cursorCell();
        if (!space.isLeafCell(cell)) {
            throw new IllegalStateException();
        }
        history.keep(layer);
        grid.inputs[layer][cell] = v;
    }

    public boolean erase(int layer) throws java.util.NoSuchElementException {
        if (!canLook(layer)) {
            throw new NoSuchElementException();
        }
        int cell = cursorCell();
        if (grid.inputs[layer][cell] == Grid.NOTHING) {
            return false;
        }
        history.keep(layer);
        grid.inputs[layer][cell] = Grid.NOTHING;
        return true;
    }

    public int state(int layer) throws java.util.NoSuchElementException, IllegalStateException {
        return Amount.kindOf(cursorAmount(layer));
    }

    public int value(int layer) throws java.util.NoSuchElementException, IllegalStateException {
        return (int) Amount.plain(cursorAmount(layer));
    }

    public int shown(int layer, int k) throws java.util.NoSuchElementException, IllegalStateException {
        StringBuilder text = Amount.textOf(cursorAmount(layer));
        return k >= 0 && k < text.length() ? text.charAt(k) : -1;
    }

    public int steps() {
        return calculator.latest;
    }

    public int fuel(int n) throws IllegalArgumentException {
        if (n < 1 || n > MOST_FUEL) {
            throw new IllegalArgumentException();
        }
        int before = calculator.allowed;
        calculator.allowed = n;
        return before;
    }

    public int winner() throws java.util.NoSuchElementException {
        if (!space.holds(cursor)) {
            throw new NoSuchElementException();
        }
        return book.best(space, cursorCell());
    }

    public int layer() throws IllegalStateException {
        if (grid.layers >= LAYERS) {
            throw new IllegalStateException();
        }
        history.forget();
        return grid.lay();
    }

    public int dropLayer(boolean merge) throws IllegalStateException {
        if (grid.layers <= 1) {
            throw new IllegalStateException();
        }
        history.forget();
        return grid.lift(merge);
    }

    public int spread(int layer, int v)
            throws java.util.NoSuchElementException, IllegalArgumentException, IllegalStateException {
        if (!canLook(layer)) {
            throw new NoSuchElementException();
        }
        if (!Amount.isInRange(v)) {
            throw new IllegalArgumentException();
        }
        if (!spreader.canSpread(layer, cursor, calculator.allowed)) {
            throw new IllegalStateException();
        }
        history.keep(layer);
        spreader.share(layer, v);
        calculator.latest = spreader.size;
        return spreader.size;
    }

    public int undo() throws IllegalStateException {
        if (history.done == 0) {
            throw new IllegalStateException();
        }
        history.stepBack();
        return history.done;
    }

    public int redo() throws IllegalStateException {
        if (history.undone == 0) {
            throw new IllegalStateException();
        }
        history.stepForth();
        return history.undone;
    }

    public int count(int what) throws IllegalArgumentException {
        switch (what) {
            case 0:
            case 1:
            case 2:
                return space.trees[what].size;
            case 3:
                return book.size;
            case 4:
                return grid.layers;
            case 5:
                return grid.allInputs();
            case 6:
                return history.done;
            case 7:
                return history.undone;
            case 8:
                return pad.length;
            default:
                throw new IllegalArgumentException();
        }
    }

    public int about(int dimension, int member, int what)
            throws java.util.NoSuchElementException, IllegalArgumentException {
        if (!space.has(dimension, member)) {
            throw new NoSuchElementException();
        }
        Tree tree = space.trees[dimension];
        switch (what) {
            case 0:
                return tree.parent[member];
            case 1:
                return tree.roll[member];
            case 2:
                return tree.depth[member];
            case 3:
                return tree.place[member];
            default:
                throw new IllegalArgumentException();
        }
    }

    public float filled(int layer) throws java.util.NoSuchElementException {
        if (!grid.has(layer)) {
            throw new NoSuchElementException();
        }
        int all = 0;
        int held = 0;
        for (int cell = 0; cell < CELLS; cell++) {
            if (space.isLeafCell(cell)) {
                all++;
                held += grid.seenFrom(layer, cell) == Grid.NOTHING ? 0 : 1;
            }
        }
        return all == 0 ? 0f : (float) held / (float) all;
    }

    private boolean canLook(int layer) {
        return grid.has(layer) && space.holds(cursor);
    }

    private int cursorCell() {
        return cursor[0] * SPAN[0] + cursor[1] * SPAN[1] + cursor[2] * SPAN[2];
    }

    private long cursorAmount(int layer) {
        if (!canLook(layer)) {
            throw new NoSuchElementException();
        }
        return calculator.amountOf(layer, cursorCell());
    }

    /**
     * What a cell can be, as one long: a number is itself, all else stands far above the numbers
     * (and above every sum of numbers), so that working out makes no objects.
     */
    private static final class Amount {
        static final int ADD = 1, SUBTRACT = 2, MULTIPLY = 3, DIVIDE = 4;
        private static final long MARK = 1L << 60;
        private static final int WHOLE = 1000;

        static boolean isInRange(long number) {
            return number >= -LARGEST && number <= LARGEST;
        }

        static long of(int kind) {
            return MARK + kind;
        }

        static int kindOf(long amount) {
            return amount < MARK ? NUMBER : (int) (amount - MARK);
        }

        static boolean isFault(long amount) {
            return kindOf(amount) > EMPTY;
        }

        /** EMPTY counts as 0, and so do the others where only a number is asked for. */
        static long plain(long amount) {
            return amount < MARK ? amount : 0;
        }

        static long fitted(long number) {
            return isInRange(number) ? number : of(OVERFLOW);
        }

        /** RING goes before OVERFLOW, that before DIVISION; the constants ascend in this order. */
        static int stronger(int kind, int other) {
            if (kind <= EMPTY) {
                return other;
            }
            return other <= EMPTY ? kind : Math.min(kind, other);
        }

        static long combined(int operation, long first, long second) {
            int kind = stronger(kindOf(first), kindOf(second));
            if (kind > EMPTY) {
                return of(kind);
            }
            long a = plain(first);
            long b = plain(second);
            switch (operation) {
                case ADD:
                    return fitted(a + b);
                case SUBTRACT:
                    return fitted(a - b);
                case MULTIPLY:
                    return fitted(rounded(a * b, WHOLE));
                default:
                    return b == 0 ? of(DIVISION) : fitted(rounded(a * WHOLE, b));
            }
        }

        /** The nearest whole, halves away from zero; twice the dividend must fit into a long. */
        static long rounded(long dividend, long divisor) {
            long size = Math.abs(dividend);
            long by = Math.abs(divisor);
            if (by == 0) {
                return 0;
            }
            long quotient = (2 * size + by) / (2 * by);
            return dividend < 0 != divisor < 0 ? -quotient : quotient;
        }

        static StringBuilder textOf(long amount) {
            StringBuilder text = new StringBuilder();
            switch (kindOf(amount)) {
                case NUMBER:
                    writeNumber(text, amount);
                    break;
                case EMPTY:
                    text.append("empty");
                    break;
                case RING:
                    text.append("ring");
                    break;
                case OVERFLOW:
                    text.append("over");
                    break;
                default:
                    text.append("div");
                    break;
            }
            return text;
        }

        private static void writeNumber(StringBuilder text, long number) {
            int size = (int) Math.abs(number);
            if (number < 0) {
                text.append('-');
            }
            text.append(size / WHOLE);
            int rest = size % WHOLE;
            if (rest != 0) {
                text.append('.');
            }
            for (int unit = 100; unit > 0 && rest != 0; unit /= 10) {
                text.append(rest / unit);
                rest %= unit;
            }
        }
    }

    /** The members of one dimension; depths and the order of the leaves are kept up with each change. */
    private static final class Tree {
        private static final int ABSENT = -2;

        final int[] parent = new int[MEMBERS];
        final int[] roll = new int[MEMBERS];
        final int[] depth = new int[MEMBERS];
        /** The place among the leaves, NOBODY for a member that is none. */
        final int[] place = new int[MEMBERS];
        private final int[] leaves = new int[MEMBERS];
        private int leafCount;
        int size;

        Tree() {
            Arrays.fill(parent, ABSENT);
            grow(NOBODY, 1);
        }

        boolean has(int member) {
            return member >= 0 && member < MEMBERS && parent[member] != ABSENT;
        }

        boolean isLeaf(int member) {
            return place[member] != NOBODY;
        }

        boolean isChild(int member, int of) {
            return parent[member] == of;
        }

        int grow(int below, int newRoll) {
            int member = 0;
            while (member < MEMBERS - 1 && parent[member] != ABSENT) {
                member++;
            }
            parent[member] = below;
            roll[member] = newRoll;
            size++;
            arrange();
            return member;
        }

        void hang(int member, int below) {
            parent[member] = below;
            arrange();
        }

        void cut(int member) {
            parent[member] = ABSENT;
            size--;
            arrange();
        }

        /** Whether a member is another one or below it. */
        boolean isWithin(int member, int top) {
            int at = member;
            for (int turn = 0; turn < MEMBERS && at >= 0; turn++) {
                if (at == top) {
                    return true;
                }
                at = parent[at];
            }
            return false;
        }

        /** The leaf so many places behind another one, NOBODY without one. */
        int leafBeside(int member, int offset) {
            int at = place[member] + offset;
            return isLeaf(member) && at >= 0 && at < leafCount ? leaves[at] : NOBODY;
        }

        /** The leaf at a place of the order, NOBODY behind the last one. */
        int leafAt(int at) {
            return at < leafCount ? leaves[at] : NOBODY;
        }

        int firstChild(int member) {
            int child = 0;
            while (child < MEMBERS && parent[child] != member) {
                child++;
            }
            return child < MEMBERS ? child : NOBODY;
        }

        int lastChild(int member) {
            int child = MEMBERS - 1;
            while (child >= 0 && parent[child] != member) {
                child--;
            }
            return child;
        }

        private void arrange() {
            Arrays.fill(place, NOBODY);
            leafCount = 0;
            walk(NOBODY, 0);
        }

        private void walk(int top, int level) {
            if (level >= MEMBERS) {
                return;
            }
            for (int member = 0; member < MEMBERS; member++) {
                if (parent[member] == top) {
                    depth[member] = level;
                    if (firstChild(member) == NOBODY) {
                        place[member] = leafCount;
                        leaves[leafCount] = member;
                        leafCount++;
                    } else {
                        walk(member, level + 1);
                    }
                }
            }
        }
    }

    /** The three trees, and cells: a cell is one number with its members as digits to the base 6. */
    private static final class Space {
        final Tree[] trees = new Tree[DIMENSIONS];

        Space() {
            for (int dimension = 0; dimension < DIMENSIONS; dimension++) {
                trees[dimension] = new Tree();
            }
        }

        static int memberOf(int cell, int dimension) {
            return cell / SPAN[dimension] % MEMBERS;
        }

        static int with(int cell, int dimension, int member) {
            return cell + (member - memberOf(cell, dimension)) * SPAN[dimension];
        }

        boolean has(int dimension, int member) {
            return dimension >= 0 && dimension < DIMENSIONS && trees[dimension].has(member);
        }

        boolean canHang(int dimension, int below) {
            boolean there = dimension >= 0 && dimension < DIMENSIONS;
            return there && (below == NOBODY || trees[dimension].has(below));
        }

        boolean holds(int[] members) {
            return trees[0].has(members[0]) && trees[1].has(members[1]) && trees[2].has(members[2]);
        }

        /** A member that is not there is no leaf, so such a cell is no leaf cell either. */
        boolean isLeafCell(int cell) {
            return innerDimension(cell) == DIMENSIONS;
        }

        /** The first dimension in which a cell's member is no leaf, DIMENSIONS without one. */
        int innerDimension(int cell) {
            int dimension = 0;
            while (dimension < DIMENSIONS && trees[dimension].isLeaf(memberOf(cell, dimension))) {
                dimension++;
            }
            return dimension;
        }

        boolean isWithin(int cell, int[] tops) {
            return trees[0].isWithin(memberOf(cell, 0), tops[0])
                    && trees[1].isWithin(memberOf(cell, 1), tops[1])
                    && trees[2].isWithin(memberOf(cell, 2), tops[2]);
        }
    }

    /** Patterns, and a formula as operations for a stack, each with a detail. */
    private static final class Rule {
        static final int JUST = 1, LEAVES = 2;
        /** More operations than characters there are none: each takes one character at least. */
        static final int LONGEST = 24;
        static final int LITERAL = 5, REFERENCE = 6, SHIFT = 7, UNLESS = 8, SKIP = 9;
        static final int BEFORE = 6, BEHIND = 7, ABOVE = 8, ALL = 9;
        private static final int WAYS = 10;

        final int[] kinds = new int[DIMENSIONS];
        final int[] members = new int[DIMENSIONS];
        final int[] operations = new int[LONGEST];
        final int[] details = new int[LONGEST];
        int length;

        static int shift(int dimension, int way) {
            return dimension * WAYS + way;
        }

        static int dimensionOf(int shift) {
            return shift / WAYS;
        }

        static int wayOf(int shift) {
            return shift % WAYS;
        }

        void clear() {
            Arrays.fill(kinds, 0);
            Arrays.fill(members, 0);
            length = 0;
        }

        void copy(Rule other) {
            System.arraycopy(other.kinds, 0, kinds, 0, DIMENSIONS);
            System.arraycopy(other.members, 0, members, 0, DIMENSIONS);
            System.arraycopy(other.operations, 0, operations, 0, LONGEST);
            System.arraycopy(other.details, 0, details, 0, LONGEST);
            length = other.length;
        }

        /** Answers the place of the new operation. */
        int append(int operation, int detail) {
            if (length >= LONGEST) {
                return LONGEST - 1;
            }
            operations[length] = operation;
            details[length] = detail;
            length++;
            return length - 1;
        }

        void forgetPattern(int dimension, int member) {
            if (members[dimension] == member) {
                kinds[dimension] = 0;
                members[dimension] = 0;
            }
        }

        boolean names(int dimension, int member) {
            if (kinds[dimension] != 0 && members[dimension] == member) {
                return true;
            }
            for (int i = 0; i < length; i++) {
                if (operations[i] == SHIFT && details[i] == shift(dimension, member)) {
                    return true;
                }
            }
            return false;
        }

        boolean fits(Space space, int cell) {
            for (int dimension = 0; dimension < DIMENSIONS; dimension++) {
                int member = Space.memberOf(cell, dimension);
                Tree tree = space.trees[dimension];
                if (kinds[dimension] == JUST && member != members[dimension]) {
                    return false;
                }
                if (kinds[dimension] == LEAVES
                        && !(tree.isLeaf(member) && tree.isWithin(member, members[dimension]))) {
                    return false;
                }
            }
            return true;
        }

        /** How special the rule is: the number of its patterns first, then the depths of their members. */
        int rank(Space space) {
            int patterns = 0;
            int depths = 0;
            for (int dimension = 0; dimension < DIMENSIONS; dimension++) {
                if (kinds[dimension] != 0) {
                    patterns++;
                    depths += space.trees[dimension].depth[members[dimension]];
                }
            }
            return patterns * CELLS + depths;
        }
    }

    /** The rules in their order. */
    private static final class RuleBook {
        private final Rule[] rules = new Rule[RULES];
        int size;

        RuleBook() {
            for (int i = 0; i < RULES; i++) {
                rules[i] = new Rule();
            }
        }

        Rule get(int number) {
            return rules[number];
        }

        void adopt(Rule draft) {
            if (size < RULES) {
                rules[size].copy(draft);
                size++;
            }
        }

        /** The rule taken out comes behind all others, to be used again by a later one. */
        void strike(int number) {
            Rule struck = rules[number];
            for (int i = number; i < RULES - 1; i++) {
                rules[i] = rules[i + 1];
            }
            rules[RULES - 1] = struck;
            size--;
        }

        boolean names(int dimension, int member) {
            for (int i = 0; i < size; i++) {
                if (rules[i].names(dimension, member)) {
                    return true;
                }
            }
            return false;
        }

        /** The rule that wins for a cell, NOBODY without one. */
        int best(Space space, int cell) {
            int best = NOBODY;
            int bestRank = 0;
            for (int i = 0; i < size; i++) {
                if (rules[i].fits(space, cell)) {
                    int rank = rules[i].rank(space);
                    if (rank >= bestRank) {
                        best = i;
                        bestRank = rank;
                    }
                }
            }
            return best;
        }
    }

    /** The text from which the next rule's formula is read. */
    private static final class Pad {
        static final int LONGEST = 24;
        private static final String SIGNS = "0123456789+-*/?:()xyz<>^$";

        private final char[] text = new char[LONGEST];
        int length;

        boolean add(char c) {
            if (SIGNS.indexOf(c) < 0 || length >= LONGEST) {
                return false;
            }
            text[length] = c;
            length++;
            return true;
        }

        void clear() {
            length = 0;
        }

        /** A character that can stand nowhere for a place behind the text. */
        char charAt(int place) {
            return place < length ? text[place] : ' ';
        }
    }

    /**
     * Reads the pad's text into the draft. Each reading method answers whether all went well; if
     * not, the place at hand is that of the fault.
     */
    private static final class Reader {
        private static final String LETTERS = "xyz";
        /** A way's place here is its number: a digit's own, then as the constants of Rule tell. */
        private static final String WAYS = "012345<>^$";
        private static final int DEEPEST = 3;
        private static final int DIGITS = 5;
        private static final int WHOLE = 1000;

        private final Pad pad;
        private final Rule draft;
        private int place;

        Reader(Pad pad, Rule draft) {
            this.pad = pad;
            this.draft = draft;
        }

        /** The place of the fault, NOBODY if the text is a formula. */
        int findFault() {
            place = 0;
            draft.length = 0;
            return readFormula(0) && place >= pad.length ? NOBODY : place;
        }

        private char look() {
            return pad.charAt(place);
        }

        private boolean readFormula(int depth) {
            if (depth > DEEPEST || !readSum(depth)) {
                return false;
            }
            if (look() != '?') {
                return true;
            }
            if (depth == DEEPEST) {
                return false;
            }
            place++;
            int unless = draft.append(Rule.UNLESS, 0);
            if (!readFormula(depth + 1) || look() != ':') {
                return false;
            }
            place++;
            int skip = draft.append(Rule.SKIP, 0);
            draft.details[unless] = draft.length;
            if (!readFormula(depth + 1)) {
                return false;
            }
            draft.details[skip] = draft.length;
            return true;
        }

        private boolean readSum(int depth) {
            boolean good = readProduct(depth);
            for (int turn = 0; turn < Pad.LONGEST && good && isSumSign(look()); turn++) {
                int operation = look() == '+' ? Amount.ADD : Amount.SUBTRACT;
                place++;
                good = readProduct(depth);
                draft.append(operation, 0);
            }
            return good;
        }

        private boolean readProduct(int depth) {
            boolean good = readUnit(depth);
            for (int turn = 0; turn < Pad.LONGEST && good && isProductSign(look()); turn++) {
                int operation = look() == '*' ? Amount.MULTIPLY : Amount.DIVIDE;
                place++;
                good = readUnit(depth);
                draft.append(operation, 0);
            }
            return good;
        }

        private boolean readUnit(int depth) {
            char c = look();
            if (isDigit(c)) {
                readNumber();
                return true;
            }
            if (c == '(') {
                return readBracket(depth);
            }
            return LETTERS.indexOf(c) >= 0 && readReference();
        }

        private void readNumber() {
            int whole = 0;
            for (int digits = 0; digits < DIGITS && isDigit(look()); digits++) {
                whole = whole * 10 + (look() - '0');
                place++;
            }
            draft.append(Rule.LITERAL, whole * WHOLE);
        }

        private boolean readBracket(int depth) {
            if (depth >= DEEPEST) {
                return false;
            }
            place++;
            if (!readFormula(depth + 1) || look() != ')') {
                return false;
            }
            place++;
            return true;
        }

        private boolean readReference() {
            int head = draft.append(Rule.REFERENCE, 0);
            boolean more = true;
            for (int turn = 0; turn < Pad.LONGEST && more; turn++) {
                int dimension = LETTERS.indexOf(look());
                place++;
                int way = WAYS.indexOf(look());
                if (way < 0) {
                    return false;
                }
                place++;
                draft.append(Rule.SHIFT, Rule.shift(dimension, way));
                draft.details[head]++;
                more = way != Rule.ALL && LETTERS.indexOf(look()) >= 0;
            }
            return true;
        }

        private static boolean isDigit(char c) {
            return c >= '0' && c <= '9';
        }

        private static boolean isSumSign(char c) {
            return c == '+' || c == '-';
        }

        private static boolean isProductSign(char c) {
            return c == '*' || c == '/';
        }
    }

    /** The inputs, a row of cells for each layer. */
    private static final class Grid {
        static final int NOTHING = Integer.MIN_VALUE;

        final int[][] inputs = new int[LAYERS][CELLS];
        int layers = 1;

        Grid() {
            Arrays.fill(inputs[0], NOTHING);
        }

        boolean has(int layer) {
            return layer >= 0 && layer < layers;
        }

        int lay() {
            Arrays.fill(inputs[layers], NOTHING);
            layers++;
            return layers - 1;
        }

        int lift(boolean merge) {
            layers--;
            int held = 0;
            for (int cell = 0; cell < CELLS; cell++) {
                int input = inputs[layers][cell];
                if (input != NOTHING) {
                    held++;
                    if (merge) {
                        inputs[layers - 1][cell] = input;
                    }
                }
            }
            return held;
        }

        /** The input of the nearest layer that has one, from one downwards, or NOTHING. */
        int seenFrom(int layer, int cell) {
            for (int at = layer; at >= 0; at--) {
                if (inputs[at][cell] != NOTHING) {
                    return inputs[at][cell];
                }
            }
            return NOTHING;
        }

        int allInputs() {
            int held = 0;
            for (int layer = 0; layer < layers; layer++) {
                for (int cell = 0; cell < CELLS; cell++) {
                    held += inputs[layer][cell] == NOTHING ? 0 : 1;
                }
            }
            return held;
        }

        /** Takes away all inputs of cells with a member, and answers how many these were. */
        int wipe(int dimension, int member) {
            int held = 0;
            for (int layer = 0; layer < layers; layer++) {
                for (int cell = 0; cell < CELLS; cell++) {
                    boolean hit = Space.memberOf(cell, dimension) == member;
                    if (hit && inputs[layer][cell] != NOTHING) {
                        inputs[layer][cell] = NOTHING;
                        held++;
                    }
                }
            }
            return held;
        }
    }

    /**
     * The latest edits, in a round of rows. An edit's row holds its layer as it was before the edit,
     * and as it was behind it once the edit is undone, so that undoing and redoing is one exchange.
     */
    private static final class History {
        private final Grid grid;
        private final int[][] rows = new int[EDITS][CELLS];
        private final int[] layerOf = new int[EDITS];
        private int first;
        int done;
        int undone;

        History(Grid grid) {
            this.grid = grid;
        }

        void forget() {
            done = 0;
            undone = 0;
        }

        /** To be called just ahead of an edit of a layer. */
        void keep(int layer) {
            if (done == EDITS) {
                first = (first + 1) % EDITS;
                done--;
            }
            int slot = (first + done) % EDITS;
            System.arraycopy(grid.inputs[layer], 0, rows[slot], 0, CELLS);
            layerOf[slot] = layer;
            done++;
            undone = 0;
        }

        void stepBack() {
            done--;
            undone++;
            exchange((first + done) % EDITS);
        }

        void stepForth() {
            exchange((first + done) % EDITS);
            done++;
            undone--;
        }

        private void exchange(int slot) {
            int[] current = grid.inputs[layerOf[slot]];
            int[] kept = rows[slot];
            for (int cell = 0; cell < CELLS; cell++) {
                int input = current[cell];
                current[cell] = kept[cell];
                kept[cell] = input;
            }
        }
    }

    /** Works cells out, seen from one layer at a time. */
    private static final class Calculator {
        private static final int DEEPEST = 20;
        /** Four formulas inside of one another, each with two parts waiting, are nine at most. */
        private static final int STACK = DEEPEST * 10;
        private static final int FIRST_FUEL = 300;

        private final Space space;
        private final RuleBook book;
        private final Grid grid;
        private final int[] busy = new int[CELLS];
        private final long[] stack = new long[STACK];
        private int top;
        private int from;
        private int taken;
        int allowed = FIRST_FUEL;
        int latest;

        Calculator(Space space, RuleBook book, Grid grid) {
            this.space = space;
            this.book = book;
            this.grid = grid;
        }

        long amountOf(int layer, int cell) {
            // A call that ended with an exception leaves its marks behind.
            Arrays.fill(busy, 0);
            top = 0;
            taken = 0;
            from = layer;
            long amount = work(cell, 1);
            latest = taken;
            return amount;
        }

        private long work(int cell, int depth) {
            if (busy[cell] != 0) {
                return Amount.of(RING);
            }
            if (depth > DEEPEST || taken >= allowed) {
                throw new IllegalStateException();
            }
            taken++;
            busy[cell] = 1;
            long amount = workInside(cell, depth);
            busy[cell] = 0;
            return amount;
        }

        private long workInside(int cell, int depth) {
            int inner = space.innerDimension(cell);
            if (inner == DIMENSIONS) {
                int input = grid.seenFrom(from, cell);
                if (input != Grid.NOTHING) {
                    return input;
                }
            }
            int winner = book.best(space, cell);
            if (winner >= 0) {
                return follow(book.get(winner), cell, depth);
            }
            return inner == DIMENSIONS ? Amount.of(EMPTY) : rollUp(cell, inner, depth);
        }

        private long rollUp(int cell, int dimension, int depth) {
            Tree tree = space.trees[dimension];
            int member = Space.memberOf(cell, dimension);
            switch (tree.roll[member]) {
                case 1:
                    return total(cell, dimension, depth);
                case 2:
                    return mean(cell, dimension, depth);
                case 3:
                    return work(Space.with(cell, dimension, tree.firstChild(member)), depth + 1);
                case 4:
                    return work(Space.with(cell, dimension, tree.lastChild(member)), depth + 1);
                default:
                    return Amount.of(EMPTY);
            }
        }

        private long total(int cell, int dimension, int depth) {
            long sum = addUp(cell, dimension, depth);
            return Amount.isFault(sum) ? sum : Amount.fitted(sum);
        }

        private long mean(int cell, int dimension, int depth) {
            long sum = addUp(cell, dimension, depth);
            if (Amount.isFault(sum)) {
                return sum;
            }
            Tree tree = space.trees[dimension];
            int member = Space.memberOf(cell, dimension);
            int parts = 0;
            for (int child = 0; child < MEMBERS; child++) {
                parts += tree.isChild(child, member) ? 1 : 0;
            }
            return Amount.fitted(Amount.rounded(sum, parts));
        }

        /** The sum over a member's children, not yet looked at for its size, or a fault. */
        private long addUp(int cell, int dimension, int depth) {
            Tree tree = space.trees[dimension];
            int member = Space.memberOf(cell, dimension);
            long sum = 0;
            int kind = NUMBER;
            for (int child = 0; child < MEMBERS; child++) {
                if (tree.isChild(child, member)) {
                    long part = work(Space.with(cell, dimension, child), depth + 1);
                    sum += Amount.plain(part);
                    kind = Amount.stronger(kind, Amount.kindOf(part));
                }
            }
            return kind > EMPTY ? Amount.of(kind) : sum;
        }

        private long follow(Rule rule, int cell, int depth) {
            int place = 0;
            for (int turn = 0; turn < Rule.LONGEST && place < rule.length; turn++) {
                place = obey(rule, place, cell, depth);
            }
            return pop();
        }

        /** Does the operation at a place, and answers the place of the next one. */
        private int obey(Rule rule, int place, int cell, int depth) {
            int detail = rule.details[place];
            switch (rule.operations[place]) {
                case Rule.LITERAL:
                    push(detail);
                    return place + 1;
                case Rule.REFERENCE:
                    push(refer(rule, place, cell, depth));
                    return place + 1 + detail;
                case Rule.UNLESS:
                    return choose(rule, place);
                case Rule.SKIP:
                    return detail;
                default:
                    long second = pop();
                    long first = pop();
                    push(Amount.combined(rule.operations[place], first, second));
                    return place + 1;
            }
        }

        /** Behind the condition: the place of the part that is chosen, or the end with a fault. */
        private int choose(Rule rule, int place) {
            int otherwise = rule.details[place];
            long condition = pop();
            if (Amount.isFault(condition)) {
                push(condition);
                return rule.details[otherwise - 1];
            }
            return Amount.plain(condition) > 0 ? place + 1 : otherwise;
        }

        private long refer(Rule rule, int place, int cell, int depth) {
            int at = cell;
            for (int i = 1; i <= rule.details[place]; i++) {
                int shift = rule.details[place + i];
                int dimension = Rule.dimensionOf(shift);
                int way = Rule.wayOf(shift);
                if (way == Rule.ALL) {
                    return total(at, dimension, depth);
                }
                int member = target(space.trees[dimension], Space.memberOf(at, dimension), way);
                if (member < 0) {
                    return Amount.of(EMPTY);
                }
                at = Space.with(at, dimension, member);
            }
            return work(at, depth + 1);
        }

        /** The member to which a shift goes, NOBODY without one. */
        private int target(Tree tree, int member, int way) {
            switch (way) {
                case Rule.BEFORE:
                    return tree.leafBeside(member, -1);
                case Rule.BEHIND:
                    return tree.leafBeside(member, 1);
                case Rule.ABOVE:
                    return tree.parent[member];
                default:
                    return tree.has(way) ? way : NOBODY;
            }
        }

        private void push(long amount) {
            if (top < STACK) {
                stack[top] = amount;
                top++;
            }
        }

        private long pop() {
            if (top == 0) {
                return Amount.of(EMPTY);
            }
            top--;
            return stack[top];
        }
    }

    /** Breaks a number back over leaf cells; it first looks whether it can, then does it. */
    private static final class Spreader {
        private final Space space;
        private final RuleBook book;
        private final Grid grid;
        private final int[] cells = new int[CELLS];
        private long all;
        int size;

        Spreader(Space space, RuleBook book, Grid grid) {
            this.space = space;
            this.book = book;
            this.grid = grid;
        }

        boolean canSpread(int layer, int[] tops, int most) {
            gather(tops);
            return size <= most && !isRuled(tops) && isSummed(tops) && canWeigh(layer);
        }

        /** Gives the first cells together their part each time, so that no rest is lost. */
        void share(int layer, int v) {
            long weight = 0;
            long given = 0;
            for (int i = 0; i < size; i++) {
                weight += weightOf(layer, cells[i]);
                long due = all == 0 ? (long) v * (i + 1) / size : v * weight / all;
                grid.inputs[layer][cells[i]] = (int) (due - given);
                given = due;
            }
        }

        private void gather(int[] tops) {
            size = 0;
            for (int order = 0; order < CELLS; order++) {
                int cell = leafCellAt(order);
                if (cell >= 0 && space.isWithin(cell, tops)) {
                    cells[size] = cell;
                    size++;
                }
            }
        }

        /** The cell of the leaves at the places that a number's digits tell, NOBODY without one. */
        private int leafCellAt(int order) {
            int cell = 0;
            for (int dimension = 0; dimension < DIMENSIONS; dimension++) {
                int leaf = space.trees[dimension].leafAt(Space.memberOf(order, dimension));
                if (leaf < 0) {
                    return NOBODY;
                }
                cell += leaf * SPAN[dimension];
            }
            return cell;
        }

        private boolean isRuled(int[] tops) {
            for (int cell = 0; cell < CELLS; cell++) {
                if (space.isWithin(cell, tops) && book.best(space, cell) >= 0) {
                    return true;
                }
            }
            return false;
        }

        private boolean isSummed(int[] tops) {
            for (int dimension = 0; dimension < DIMENSIONS; dimension++) {
                Tree tree = space.trees[dimension];
                for (int member = 0; member < MEMBERS; member++) {
                    boolean inner = tree.isWithin(member, tops[dimension]) && !tree.isLeaf(member);
                    if (inner && tree.roll[member] != 1) {
                        return false;
                    }
                }
            }
            return true;
        }

        private boolean canWeigh(int layer) {
            all = 0;
            for (int i = 0; i < size; i++) {
                long weight = weightOf(layer, cells[i]);
                if (weight < 0) {
                    return false;
                }
                all += weight;
            }
            return Amount.isInRange(all);
        }

        /** No rule wins here, so that a leaf cell is its input, or EMPTY. */
        private long weightOf(int layer, int cell) {
            int input = grid.seenFrom(layer, cell);
            return input == Grid.NOTHING ? 0 : input;
        }
    }
}
