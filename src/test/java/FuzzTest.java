import java.util.ArrayList;
import java.util.List;
import java.util.TreeMap;

/** Long mixed runs of calls: the program's answers are held against the oracle's. Always the same runs. */
public final class FuzzTest {
    private static final int CALLS = 500;
    private static final String SIGNS = "0123456789+-*/?:()xyz<>^$";

    private static final int[] FAR = {Integer.MIN_VALUE, Integer.MIN_VALUE + 1, -1000000, -36, 36, 216, 65536,
        Integer.MAX_VALUE - 1, Integer.MAX_VALUE};

    private interface Answer {
        Object get();
    }

    private final ModelSheet sheet = new ModelSheet();
    private final Oracle oracle = new Oracle();
    private final List<String> calls = new ArrayList<>();
    private static final TreeMap<String, Integer> SEEN = new TreeMap<>();
    private long seed;
    private boolean ruled;
    /** In a calm run few changes forget the edits. */
    private boolean calm;
    private boolean wrong;

    private FuzzTest(long seed) {
        this.seed = seed * 0x9E3779B97F4A7C15L + 1;
    }

    public static void main(String[] args) {
        int runs = args.length > 0 ? Integer.parseInt(args[0]) : 400;
        int wrong = 0;
        for (int run = 1; run <= runs && wrong < 3; run++) {
            wrong += new FuzzTest(run).agrees() ? 0 : 1;
        }
        if (args.length > 1) {
            SEEN.forEach((what, times) -> System.out.println(times + "\t" + what));
        }
        System.out.println("fuzz: " + runs + " runs, " + wrong + " wrong");
        if (wrong != 0) {
            System.exit(1);
        }
    }

    private int any(int bound) {
        seed = seed * 6364136223846793005L + 1442695040888963407L;
        return (int) ((seed >>> 33) % bound);
    }

    /** Mostly one of 0 .. bound - 1, now and then one beside these, or far from them. */
    private int near(int bound) {
        if (any(200) == 0) {
            return FAR[any(FAR.length)];
        }
        return any(25) == 0 ? any(bound + 4) - 2 : any(bound);
    }

    /** Mostly a member that is there. */
    private int some(int d) {
        int member = near(6);
        for (int i = 0; i < 20 && d >= 0 && d < 3 && any(30) > 0 && !oracle.has(d, member); i++) {
            member = any(6);
        }
        return member;
    }

    private boolean agrees() {
        for (int i = 5 * any(4); i > 0; i--) {
            addMember();
        }
        ruled = any(3) > 0;
        calm = any(2) == 0;
        while (calls.size() < CALLS && !wrong) {
            step();
        }
        if (wrong) {
            calls.forEach(System.out::println);
        }
        return !wrong;
    }

    private void same(String call, Answer real, Answer due) {
        if (wrong || calls.size() >= CALLS) {
            return;
        }
        String got = answer(real);
        String want = answer(due);
        calls.add(call + " -> " + got);
        String kind = call.substring(0, call.indexOf('('));
        String seen = got.endsWith("Exception") ? kind + " " + got : kind;
        SEEN.merge(kind.equals("state") || kind.equals("rule") ? kind + " " + got : seen, 1, Integer::sum);
        if (!got.equals(want)) {
            wrong = true;
            calls.add("due is " + want);
        }
    }

    private static String answer(Answer answer) {
        try {
            return String.valueOf(answer.get());
        } catch (RuntimeException e) {
            return e.getClass().getSimpleName();
        }
    }

    private void step() {
        int dice = calm && any(8) > 0 ? 13 + any(87) : any(100);
        if (dice < 3) {
            addMember();
        } else if (dice < 5) {
            changeMembers();
        } else if (dice < 11 && ruled) {
            changeRules();
        } else if (dice < 13) {
            changeLayers();
        } else if (dice < 35) {
            edit();
        } else if (dice < 55) {
            int d = near(3);
            int m = some(d);
            same("at(" + d + ", " + m + ")", () -> sheet.at(d, m), () -> oracle.at(d, m));
        } else if (dice < 90) {
            look();
        } else {
            count();
        }
    }

    private void addMember() {
        int d = near(3);
        int parent = any(4) == 0 ? -1 : some(d);
        int roll = any(4) > 0 || !ruled ? 1 : near(5);
        same("member(" + d + ", " + parent + ", " + roll + ")", () -> sheet.member(d, parent, roll),
                () -> oracle.member(d, parent, roll));
    }

    private void changeMembers() {
        int d = near(3);
        int member = some(d);
        int parent = any(4) == 0 ? -1 : some(d);
        if (any(2) == 0) {
            same("move(" + d + ", " + member + ", " + parent + ")", () -> sheet.move(d, member, parent),
                    () -> oracle.move(d, member, parent));
        } else {
            same("drop(" + d + ", " + member + ")", () -> sheet.drop(d, member), () -> oracle.drop(d, member));
        }
    }

    private void changeRules() {
        if (any(4) == 0) {
            int rule = any(3) == 0 ? near(8) : near(2);
            same("dropRule(" + rule + ")", () -> sheet.dropRule(rule), () -> oracle.dropRule(rule));
            return;
        }
        for (int i = any(5); i > 0; i--) {
            int d = near(3);
            int kind = near(3);
            int member = some(d);
            same("pattern(" + d + ", " + kind + ", " + member + ")", () -> {
                sheet.pattern(d, kind, member);
                return 0;
            }, () -> oracle.pattern(d, kind, member));
        }
        String text = any(3) == 0 ? spoilt(formula(0)) : formula(0);
        for (int i = 0; i < text.length(); i++) {
            char c = text.charAt(i);
            same("type(" + c + ")", () -> sheet.type(c) ? 1 : 0, () -> oracle.type(c));
        }
        if (any(15) > 0) {
            same("rule()", sheet::rule, oracle::rule);
        }
    }

    private String formula(int depth) {
        String text = unit(depth);
        for (int i = any(4) == 0 ? any(4) : any(2); i > 0; i--) {
            text += "+-*/".charAt(any(4)) + unit(depth);
        }
        return any(6) == 0 ? text + "?" + formula(depth + 1) + ":" + formula(depth + 1) : text;
    }

    private String unit(int depth) {
        int dice = any(10);
        if (dice < 3) {
            return "" + any(any(3) == 0 ? 100000 : any(3) == 0 ? 1000 : 3);
        }
        if (dice < 5) {
            return "(" + formula(depth + 1) + ")";
        }
        String text = "";
        for (int i = any(5) == 0 ? 3 : 1; i > 0; i--) {
            text += "" + "xyz".charAt(any(3)) + "<>^012345$".charAt(any(10));
        }
        return text;
    }

    private String spoilt(String text) {
        int place = any(text.length() + 1);
        String sign = any(20) == 0 ? " " : "" + SIGNS.charAt(any(SIGNS.length()));
        String rest = text.substring(any(2) == 0 ? place : Math.min(text.length(), place + 1));
        return text.substring(0, place) + (any(3) == 0 ? "" : sign) + rest;
    }

    private void changeLayers() {
        boolean merge = any(2) == 0;
        if (any(3) > 0) {
            same("layer()", sheet::layer, oracle::layer);
        } else {
            same("dropLayer(" + merge + ")", () -> sheet.dropLayer(merge), () -> oracle.dropLayer(merge));
        }
    }

    private int number() {
        switch (any(6)) {
            case 0:
                return any(20) - 5;
            case 1:
                return any(2000000) - 100000;
            case 2:
                return 2000000000 - any(3);
            case 3:
                return any(3) > 0 ? any(100) : -2000000000 + any(3);
            case 4:
                return any(10) == 0 ? outside() : any(1000000000);
            default:
                return any(5000);
        }
    }

    private int outside() {
        int v = any(2) == 0 ? 2000000001 : -2000000001;
        return any(4) == 0 ? FAR[any(2) == 0 ? 0 : FAR.length - 1] : v;
    }

    private int layer() {
        return any(25) == 0 ? any(50) == 0 ? FAR[any(FAR.length)] : any(5) - 1 : any(oracle.count(4));
    }

    private void toALeaf() {
        for (int i = 0; i < 3; i++) {
            int d = i;
            int m = some(d);
            for (int j = 0; j < 9 && oracle.has(d, m) && oracle.about(d, m, 3) < 0; j++) {
                m = some(d);
            }
            int to = m;
            same("at(" + d + ", " + to + ")", () -> sheet.at(d, to), () -> oracle.at(d, to));
        }
    }

    private void edit() {
        int layer = layer();
        int v = number();
        if (any(5) == 0) {
            toALeaf();
        }
        switch (any(8)) {
            case 0:
                same("erase(" + layer + ")", () -> sheet.erase(layer) ? 1 : 0, () -> oracle.erase(layer));
                break;
            case 1:
                same("undo()", sheet::undo, oracle::undo);
                break;
            case 2:
                same("redo()", sheet::redo, oracle::redo);
                break;
            case 3:
                same("spread(" + layer + ", " + v + ")", () -> sheet.spread(layer, v), () -> oracle.spread(layer, v));
                break;
            default:
                same("put(" + layer + ", " + v + ")", () -> {
                    sheet.put(layer, v);
                    return 0;
                }, () -> oracle.put(layer, v));
                break;
        }
    }

    private void look() {
        int layer = layer();
        int k = any(200) == 0 ? FAR[any(FAR.length)] : any(12) - 1;
        switch (any(5)) {
            case 0:
                same("value(" + layer + ")", () -> sheet.value(layer), () -> oracle.value(layer));
                break;
            case 1:
                same("shown(" + layer + ", " + k + ")", () -> sheet.shown(layer, k), () -> oracle.shown(layer, k));
                break;
            case 2:
                same("winner()", sheet::winner, oracle::winner);
                break;
            default:
                same("state(" + layer + ")", () -> sheet.state(layer), () -> oracle.state(layer));
                break;
        }
        same("steps()", sheet::steps, oracle::steps);
    }

    private void count() {
        int what = near(9);
        int d = near(3);
        int member = some(d);
        int about = near(4);
        int layer = layer();
        int n = any(5) == 0 ? any(2100) : any(5) > 0 ? any(40) : near(2001);
        switch (any(5)) {
            case 0:
                same("about(" + d + ", " + member + ", " + about + ")", () -> sheet.about(d, member, about),
                        () -> oracle.about(d, member, about));
                break;
            case 1:
                same("filled(" + layer + ")", () -> sheet.filled(layer), () -> oracle.filled(layer));
                break;
            case 2:
                int fuel = any(3) == 0 ? n : 2000;
                same("fuel(" + fuel + ")", () -> sheet.fuel(fuel), () -> oracle.fuel(fuel));
                break;
            default:
                same("count(" + what + ")", () -> sheet.count(what), () -> oracle.count(what));
                break;
        }
    }
}
