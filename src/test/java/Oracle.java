import java.math.BigDecimal;
import java.math.BigInteger;
import java.math.RoundingMode;
import java.util.ArrayDeque;
import java.util.ArrayList;
import java.util.Comparator;
import java.util.Deque;
import java.util.HashMap;
import java.util.HashSet;
import java.util.List;
import java.util.Map;
import java.util.NoSuchElementException;
import java.util.Set;
import java.util.TreeMap;
import java.util.stream.IntStream;

/**
 * The document once more, in other ways than the program's: sheets are copied for each edit, formulas
 * are cut up as texts each time, numbers are big. FuzzTest holds the program's answers against it.
 */
final class Oracle {
    private enum Kind { NUMBER, EMPTY, RING, OVERFLOW, DIVISION }

    private record Member(int parent, int roll) { }

    private record Rule(int[] kinds, int[] members, String text) { }

    private static final BigInteger LARGEST = BigInteger.valueOf(2000000000);

    private final List<TreeMap<Integer, Member>> dimensions = new ArrayList<>();
    private final int[] cursor = new int[3];
    private List<Map<List<Integer>, Integer>> layers = new ArrayList<>();
    private final List<Rule> rules = new ArrayList<>();
    private final Deque<List<Map<List<Integer>, Integer>>> past = new ArrayDeque<>();
    private final Deque<List<Map<List<Integer>, Integer>>> future = new ArrayDeque<>();
    private String pad = "";
    private int[] kinds = new int[3];
    private int[] members = new int[3];
    private int fuel = 300;
    private int latest;

    private final Set<List<Integer>> open = new HashSet<>();
    private int begun;
    private int from;

    Oracle() {
        for (int d = 0; d < 3; d++) {
            dimensions.add(new TreeMap<>(Map.of(0, new Member(-1, 1))));
        }
        layers.add(new HashMap<>());
    }

    // Members

    int member(int d, int parent, int roll) {
        need(d >= 0 && d < 3 && (parent == -1 || dimensions.get(d).containsKey(parent)));
        allow(roll >= 0 && roll <= 4);
        TreeMap<Integer, Member> all = dimensions.get(d);
        state(all.size() < 6);
        int number = IntStream.range(0, 6).filter(m -> !all.containsKey(m)).findFirst().getAsInt();
        all.put(number, new Member(parent, roll));
        forget();
        return number;
    }

    int move(int d, int member, int parent) {
        need(has(d, member) && (parent == -1 || has(d, parent)));
        allow(!below(d, member).contains(parent));
        dimensions.get(d).put(member, new Member(parent, dimensions.get(d).get(member).roll));
        forget();
        return depth(d, member);
    }

    int drop(int d, int member) {
        need(has(d, member));
        state(children(d, member).isEmpty());
        String digit = "" + "xyz".charAt(d) + member;
        state(rules.stream().noneMatch(r -> r.kinds[d] != 0 && r.members[d] == member || r.text.contains(digit)));
        dimensions.get(d).remove(member);
        int before = count(5);
        layers.forEach(layer -> layer.keySet().removeIf(cell -> cell.get(d) == member));
        if (members[d] == member) {
            kinds[d] = 0;
        }
        forget();
        return before - count(5);
    }

    int about(int d, int member, int what) {
        need(has(d, member));
        allow(what >= 0 && what <= 3);
        Member m = dimensions.get(d).get(member);
        return new int[] {m.parent, m.roll, depth(d, member), leaves(d).indexOf(member)}[what];
    }

    boolean has(int d, int member) {
        return d >= 0 && d < 3 && dimensions.get(d).containsKey(member);
    }

    private List<Integer> children(int d, int member) {
        return dimensions.get(d).keySet().stream().filter(m -> dimensions.get(d).get(m).parent == member).toList();
    }

    /** A member and all below it. */
    private List<Integer> below(int d, int member) {
        List<Integer> all = new ArrayList<>(List.of(member));
        children(d, member).forEach(child -> all.addAll(below(d, child)));
        return all;
    }

    private int depth(int d, int member) {
        int parent = dimensions.get(d).get(member).parent;
        return parent == -1 ? 0 : 1 + depth(d, parent);
    }

    private boolean leaf(int d, int member) {
        return children(d, member).isEmpty();
    }

    private List<Integer> leaves(int d) {
        List<Integer> all = new ArrayList<>();
        for (int root : children(d, -1)) {
            below(d, root).stream().filter(m -> leaf(d, m)).forEach(all::add);
        }
        return all;
    }

    // Cursor and inputs

    int at(int d, int member) {
        need(d >= 0 && d < 3);
        allow(member >= 0 && member < 6);
        int before = cursor[d];
        cursor[d] = member;
        return before;
    }

    private List<Integer> here() {
        return List.of(cursor[0], cursor[1], cursor[2]);
    }

    private void needCell() {
        need(has(0, cursor[0]) && has(1, cursor[1]) && has(2, cursor[2]));
    }

    private void needLayer(int layer) {
        need(layer >= 0 && layer < layers.size());
    }

    private boolean leafCell(List<Integer> cell) {
        return leaf(0, cell.get(0)) && leaf(1, cell.get(1)) && leaf(2, cell.get(2));
    }

    int put(int layer, int v) {
        needLayer(layer);
        needCell();
        allow(v >= -2000000000 && v <= 2000000000);
        state(leafCell(here()));
        edit();
        layers.get(layer).put(here(), v);
        return 0;
    }

    int erase(int layer) {
        needLayer(layer);
        needCell();
        if (!layers.get(layer).containsKey(here())) {
            return 0;
        }
        edit();
        layers.get(layer).remove(here());
        return 1;
    }

    int layer() {
        state(layers.size() < 3);
        layers.add(new HashMap<>());
        forget();
        return layers.size() - 1;
    }

    int dropLayer(boolean merge) {
        state(layers.size() > 1);
        Map<List<Integer>, Integer> gone = layers.remove(layers.size() - 1);
        if (merge) {
            layers.get(layers.size() - 1).putAll(gone);
        }
        forget();
        return gone.size();
    }

    private Integer input(int layer, List<Integer> cell) {
        for (int at = layer; at >= 0; at--) {
            if (layers.get(at).containsKey(cell)) {
                return layers.get(at).get(cell);
            }
        }
        return null;
    }

    float filled(int layer) {
        needLayer(layer);
        List<List<Integer>> all = leafCells(leaves(0), leaves(1), leaves(2));
        long held = all.stream().filter(cell -> input(layer, cell) != null).count();
        return all.isEmpty() ? 0 : (float) held / (float) all.size();
    }

    private static List<List<Integer>> leafCells(List<Integer> xs, List<Integer> ys, List<Integer> zs) {
        List<List<Integer>> all = new ArrayList<>();
        xs.forEach(x -> ys.forEach(y -> zs.forEach(z -> all.add(List.of(x, y, z)))));
        return all;
    }

    // Edits

    private List<Map<List<Integer>, Integer>> copy() {
        List<Map<List<Integer>, Integer>> all = new ArrayList<>();
        layers.forEach(layer -> all.add(new HashMap<>(layer)));
        return all;
    }

    private void edit() {
        past.addLast(copy());
        if (past.size() > 12) {
            past.removeFirst();
        }
        future.clear();
    }

    private void forget() {
        past.clear();
        future.clear();
    }

    int undo() {
        state(!past.isEmpty());
        future.addLast(copy());
        layers = past.removeLast();
        return past.size();
    }

    int redo() {
        state(!future.isEmpty());
        past.addLast(copy());
        layers = future.removeLast();
        return future.size();
    }

    int count(int what) {
        allow(what >= 0 && what <= 8);
        int inputs = layers.stream().mapToInt(Map::size).sum();
        return new int[] {dimensions.get(0).size(), dimensions.get(1).size(), dimensions.get(2).size(),
            rules.size(), layers.size(), inputs, past.size(), future.size(), pad.length()}[what];
    }

    // Rules

    int pattern(int d, int kind, int member) {
        need(d >= 0 && d < 3);
        need(kind != 1 && kind != 2 || has(d, member));
        allow(kind >= 0 && kind <= 2);
        kinds[d] = kind;
        members[d] = kind == 0 ? -1 : member;
        return 0;
    }

    int type(char c) {
        if (pad.length() == 24 || "0123456789+-*/?:()xyz<>^$".indexOf(c) < 0) {
            return 0;
        }
        pad += c;
        return 1;
    }

    int rule() {
        state(rules.size() < 8);
        int fault = fault(pad);
        if (fault == 0) {
            rules.add(new Rule(kinds, members, pad));
            forget();
        }
        pad = "";
        kinds = new int[3];
        members = new int[3];
        return fault;
    }

    int dropRule(int rule) {
        need(rule >= 0 && rule < rules.size());
        rules.remove(rule);
        forget();
        return rules.size();
    }

    int winner() {
        needCell();
        return winner(here());
    }

    private int winner(List<Integer> cell) {
        Comparator<Integer> special = Comparator.comparing(r -> patterns(rules.get(r)));
        return IntStream.range(0, rules.size()).boxed().filter(r -> fits(rules.get(r), cell))
                .max(special.thenComparing(r -> depths(rules.get(r))).thenComparing(r -> r)).orElse(-1);
    }

    private boolean fits(Rule rule, List<Integer> cell) {
        return IntStream.range(0, 3).allMatch(d -> switch (rule.kinds[d]) {
            case 0 -> true;
            case 1 -> cell.get(d) == rule.members[d];
            default -> leaf(d, cell.get(d)) && below(d, rule.members[d]).contains(cell.get(d));
        });
    }

    private static int patterns(Rule rule) {
        return (int) IntStream.range(0, 3).filter(d -> rule.kinds[d] != 0).count();
    }

    private int depths(Rule rule) {
        return IntStream.range(0, 3).filter(d -> rule.kinds[d] != 0).map(d -> depth(d, rule.members[d])).sum();
    }

    /**
     * 0 or 1 + the fault. The formulas at hand stand in a text of what opened each: w the whole, (, ? and
     * : (the last two for the formulas behind these signs), so that its length is 1 + the depth.
     */
    static int fault(String text) {
        String opened = "w";
        // u a unit is due, 1 to 5 so many digits, l a letter, s a shift, d a shift with $, e a unit's end
        char last = 'u';
        for (int i = 0; i < text.length(); i++) {
            char c = text.charAt(i);
            boolean ended = "12345sde".indexOf(last) >= 0;
            if (Character.isDigit(c) && (last == 'u' || last >= '1' && last <= '4')) {
                last = last == 'u' ? '1' : (char) (last + 1);
            } else if ((c >= 'x' && c <= 'z') && (last == 'u' || last == 's')) {
                last = 'l';
            } else if (last == 'l' && "<>^012345$".indexOf(c) >= 0) {
                last = c == '$' ? 'd' : 's';
            } else if (c == '(' && last == 'u' && opened.length() <= 3) {
                opened += c;
            } else if (ended && "+-*/".indexOf(c) >= 0) {
                last = 'u';
            } else if (ended && c == '?' && opened.length() <= 3) {
                opened += c;
                last = 'u';
            } else if (ended && c == ':' && whole(opened).endsWith("?")) {
                opened = whole(opened).substring(0, whole(opened).length() - 1) + c;
                last = 'u';
            } else if (ended && c == ')' && whole(opened).endsWith("(")) {
                opened = whole(opened).substring(0, whole(opened).length() - 1);
                last = 'e';
            } else {
                return 1 + i;
            }
        }
        boolean complete = "12345sde".indexOf(last) >= 0 && whole(opened).equals("w");
        return complete ? 0 : 1 + text.length();
    }

    /** A formula behind : ends together with that in which it stands. */
    private static String whole(String opened) {
        return opened.replaceAll(":+$", "");
    }

    // What cells are

    int state(int layer) {
        return look(layer) instanceof Kind kind ? kind.ordinal() : 0;
    }

    int value(int layer) {
        return look(layer) instanceof BigInteger number ? number.intValueExact() : 0;
    }

    int shown(int layer, int k) {
        Object amount = look(layer);
        String text;
        if (amount instanceof BigInteger number) {
            text = new BigDecimal(number, 3).stripTrailingZeros().toPlainString();
        } else {
            text = List.of("", "empty", "ring", "over", "div").get(((Kind) amount).ordinal());
        }
        return k >= 0 && k < text.length() ? text.charAt(k) : -1;
    }

    int steps() {
        return latest;
    }

    int fuel(int n) {
        allow(n >= 1 && n <= 2000);
        int before = fuel;
        fuel = n;
        return before;
    }

    private Object look(int layer) {
        needLayer(layer);
        needCell();
        open.clear();
        begun = 0;
        from = layer;
        Object amount = cell(here(), 1);
        latest = begun;
        return amount;
    }

    private Object cell(List<Integer> cell, int depth) {
        if (open.contains(cell)) {
            return Kind.RING;
        }
        state(depth <= 20);
        begun++;
        state(begun <= fuel);
        open.add(cell);
        Object amount = inside(cell, depth);
        open.remove(cell);
        return amount;
    }

    private Object inside(List<Integer> cell, int depth) {
        Integer input = leafCell(cell) ? input(from, cell) : null;
        if (input != null) {
            return BigInteger.valueOf(input);
        }
        int winner = winner(cell);
        if (winner >= 0) {
            return formula(rules.get(winner).text, cell, depth);
        }
        for (int d = 0; d < 3; d++) {
            if (!leaf(d, cell.get(d))) {
                return rolled(cell, d, depth);
            }
        }
        return Kind.EMPTY;
    }

    private Object rolled(List<Integer> cell, int d, int depth) {
        List<Integer> children = children(d, cell.get(d));
        return switch (dimensions.get(d).get(cell.get(d)).roll) {
            case 1 -> sum(cell, d, depth, 1);
            case 2 -> sum(cell, d, depth, children.size());
            case 3 -> cell(with(cell, d, children.get(0)), depth + 1);
            case 4 -> cell(with(cell, d, children.get(children.size() - 1)), depth + 1);
            default -> Kind.EMPTY;
        };
    }

    private Object sum(List<Integer> cell, int d, int depth, int parts) {
        List<Object> all = new ArrayList<>();
        children(d, cell.get(d)).forEach(child -> all.add(cell(with(cell, d, child), depth + 1)));
        Kind fault = fault(all);
        BigInteger sum = all.stream().map(Oracle::plain).reduce(BigInteger.ZERO, BigInteger::add);
        return fault != null ? fault : rounded(new BigDecimal(sum), BigDecimal.valueOf(parts));
    }

    private static Kind fault(List<Object> all) {
        for (Kind kind : List.of(Kind.RING, Kind.OVERFLOW, Kind.DIVISION)) {
            if (all.contains(kind)) {
                return kind;
            }
        }
        return null;
    }

    private static List<Integer> with(List<Integer> cell, int d, int member) {
        List<Integer> other = new ArrayList<>(cell);
        other.set(d, member);
        return List.copyOf(other);
    }

    private static BigInteger plain(Object amount) {
        return amount instanceof BigInteger number ? number : BigInteger.ZERO;
    }

    private static Object rounded(BigDecimal a, BigDecimal b) {
        BigInteger whole = a.divide(b, 0, RoundingMode.HALF_UP).toBigIntegerExact();
        return whole.abs().compareTo(LARGEST) > 0 ? Kind.OVERFLOW : whole;
    }

    private Object formula(String text, List<Integer> cell, int depth) {
        int ask = find(text, "?", true);
        if (ask >= 0) {
            Object condition = formula(text.substring(0, ask), cell, depth);
            int or = colon(text, ask + 1);
            if (fault(List.of(condition)) != null) {
                return condition;
            }
            boolean yes = plain(condition).signum() > 0;
            return formula(yes ? text.substring(ask + 1, or) : text.substring(or + 1), cell, depth);
        }
        int cut = find(text, "+-", false);
        if (cut < 0) {
            cut = find(text, "*/", false);
        }
        if (cut >= 0) {
            Object first = formula(text.substring(0, cut), cell, depth);
            Object second = formula(text.substring(cut + 1), cell, depth);
            return combined(text.charAt(cut), first, second);
        }
        if (text.charAt(0) == '(') {
            return formula(text.substring(1, text.length() - 1), cell, depth);
        }
        return Character.isDigit(text.charAt(0)) ? new BigInteger(text + "000") : reference(text, cell, depth);
    }

    private static Object combined(char sign, Object first, Object second) {
        Kind fault = fault(List.of(first, second));
        if (fault != null) {
            return fault;
        }
        BigDecimal a = new BigDecimal(plain(first));
        BigDecimal b = new BigDecimal(plain(second));
        BigDecimal thousand = BigDecimal.valueOf(1000);
        return switch (sign) {
            case '+' -> rounded(a.add(b), BigDecimal.ONE);
            case '-' -> rounded(a.subtract(b), BigDecimal.ONE);
            case '*' -> rounded(a.multiply(b), thousand);
            default -> b.signum() == 0 ? Kind.DIVISION : rounded(a.multiply(thousand), b);
        };
    }

    /** The first or last place of one of some signs outside of all brackets, -1 without one. */
    private static int find(String text, String signs, boolean first) {
        int brackets = 0;
        int found = -1;
        for (int i = 0; i < text.length(); i++) {
            brackets += text.charAt(i) == '(' ? 1 : text.charAt(i) == ')' ? -1 : 0;
            if (brackets == 0 && signs.indexOf(text.charAt(i)) >= 0 && (found < 0 || !first)) {
                found = i;
            }
        }
        return found;
    }

    /** The : that belongs to the ? just ahead of a place. */
    private static int colon(String text, int place) {
        int waiting = 0;
        int brackets = 0;
        for (int i = place; i < text.length(); i++) {
            char c = text.charAt(i);
            brackets += c == '(' ? 1 : c == ')' ? -1 : 0;
            if (brackets == 0 && c == ':' && waiting == 0) {
                return i;
            }
            waiting += brackets != 0 ? 0 : c == '?' ? 1 : c == ':' ? -1 : 0;
        }
        throw new AssertionError(text);
    }

    private Object reference(String text, List<Integer> cell, int depth) {
        if (text.isEmpty()) {
            return cell(cell, depth + 1);
        }
        int d = text.charAt(0) - 'x';
        int member = cell.get(d);
        List<Integer> leaves = leaves(d);
        int place = leaves.indexOf(member);
        int to;
        switch (text.charAt(1)) {
            case '$':
                return sum(cell, d, depth, 1);
            case '<':
                to = place > 0 ? leaves.get(place - 1) : -1;
                break;
            case '>':
                to = place >= 0 && place < leaves.size() - 1 ? leaves.get(place + 1) : -1;
                break;
            case '^':
                to = dimensions.get(d).get(member).parent;
                break;
            default:
                to = has(d, text.charAt(1) - '0') ? text.charAt(1) - '0' : -1;
                break;
        }
        return to < 0 ? Kind.EMPTY : reference(text.substring(2), with(cell, d, to), depth);
    }

    // Spreading

    int spread(int layer, int v) {
        needLayer(layer);
        needCell();
        allow(v >= -2000000000 && v <= 2000000000);
        List<List<Integer>> parts = new ArrayList<>();
        for (int d = 0; d < 3; d++) {
            List<Integer> below = below(d, cursor[d]);
            for (int m : below) {
                state(leaf(d, m) || dimensions.get(d).get(m).roll == 1);
            }
            parts.add(below);
        }
        leafCells(parts.get(0), parts.get(1), parts.get(2)).forEach(cell -> state(winner(cell) < 0));
        for (int d = 0; d < 3; d++) {
            List<Integer> below = parts.get(d);
            parts.set(d, leaves(d).stream().filter(below::contains).toList());
        }
        List<List<Integer>> cells = leafCells(parts.get(0), parts.get(1), parts.get(2));
        List<BigInteger> weights = cells.stream().map(cell -> input(layer, cell))
                .map(input -> BigInteger.valueOf(input == null ? 0 : input)).toList();
        BigInteger all = weights.stream().reduce(BigInteger.ZERO, BigInteger::add);
        state(weights.stream().allMatch(weight -> weight.signum() >= 0));
        state(all.compareTo(LARGEST) <= 0 && cells.size() <= fuel);
        edit();
        BigInteger before = BigInteger.ZERO;
        for (int i = 0; i < cells.size(); i++) {
            BigInteger p = weights.subList(0, i + 1).stream().reduce(BigInteger.ZERO, BigInteger::add);
            BigInteger up = all.signum() == 0 ? BigInteger.valueOf(i + 1) : p;
            BigInteger down = all.signum() == 0 ? BigInteger.valueOf(cells.size()) : all;
            BigInteger due = BigInteger.valueOf(v).multiply(up).divide(down);
            layers.get(layer).put(cells.get(i), due.subtract(before).intValueExact());
            before = due;
        }
        latest = cells.size();
        return cells.size();
    }

    private static void need(boolean there) {
        if (!there) {
            throw new NoSuchElementException();
        }
    }

    private static void allow(boolean good) {
        if (!good) {
            throw new IllegalArgumentException();
        }
    }

    private static void state(boolean good) {
        if (!good) {
            throw new IllegalStateException();
        }
    }
}
