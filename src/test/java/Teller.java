import java.util.NoSuchElementException;

/**
 * Makes calls that are told as rows of text on a sheet of its own, and tells the answers as texts:
 * "put 0 5", "about 0 1 2", "rule x1+2" (typed, then rule()). An exception is "! none", "! argument" or
 * "! state". It counts the calls: behind the 512th the document promises nothing.
 */
final class Teller {
    static final int CALLS = 512;
    private static final String[] STATES = {"NUMBER", "EMPTY", "RING", "OVER", "DIV"};

    private final ModelSheet sheet = new ModelSheet();
    private int calls;

    /** Makes the calls of a row: "12x put 0 5" makes that of "put 0 5" twelve times. */
    String tell(String row) {
        String[] words = row.trim().split(" +");
        int times = 1;
        int first = 0;
        if (words[0].matches("[0-9]+x")) {
            times = Integer.parseInt(words[0].substring(0, words[0].length() - 1));
            first = 1;
        }
        String[] call = java.util.Arrays.copyOfRange(words, first, words.length);
        String answer = "";
        for (int i = 0; i < times; i++) {
            answer = answered(call);
        }
        return answer;
    }

    private String answered(String[] call) {
        try {
            return answer(call);
        } catch (RuntimeException e) {
            return thrown(e);
        }
    }

    /** Just the document's exceptions have a short name here; all else is told whole. */
    private static String thrown(RuntimeException e) {
        if (e.getClass() == NoSuchElementException.class) {
            return "! none";
        }
        if (e.getClass() == IllegalArgumentException.class) {
            return "! argument";
        }
        return e.getClass() == IllegalStateException.class ? "! state" : "! " + e;
    }

    private ModelSheet count() {
        calls++;
        if (calls > CALLS) {
            throw new AssertionError("a test makes more than 512 calls on one sheet");
        }
        return sheet;
    }

    int left() {
        return CALLS - calls;
    }

    private static int number(String word) {
        switch (word) {
            case "MIN":
                return Integer.MIN_VALUE;
            case "MAX":
                return Integer.MAX_VALUE;
            default:
                return Integer.parseInt(word);
        }
    }

    private String answer(String[] call) {
        int[] n = new int[4];
        boolean words = call[0].equals("type") || call[0].equals("rule");
        for (int i = 1; i < call.length && !words; i++) {
            n[i] = number(call[i]);
        }
        switch (call[0]) {
            case "at": return "" + count().at(n[1], n[2]);
            case "go": return count().at(0, n[1]) + " " + count().at(1, n[2]) + " " + count().at(2, n[3]);
            case "put": count().put(n[1], n[2]); return "";
            case "erase": return "" + count().erase(n[1]);
            case "layer": return "" + count().layer();
            case "merge": return "" + count().dropLayer(true);
            case "lift": return "" + count().dropLayer(false);
            case "spread": return "" + count().spread(n[1], n[2]);
            case "undo": return "" + count().undo();
            case "redo": return "" + count().redo();
            case "count": return "" + count().count(n[1]);
            case "filled": return "" + count().filled(n[1]);
            default: return words ? formula(call) : other(call[0], n);
        }
    }

    private String other(String name, int[] n) {
        switch (name) {
            case "member": return "" + count().member(n[1], n[2], n[3]);
            case "move": return "" + count().move(n[1], n[2], n[3]);
            case "drop": return "" + count().drop(n[1], n[2]);
            case "about": return "" + count().about(n[1], n[2], n[3]);
            case "pattern": count().pattern(n[1], n[2], n[3]); return "";
            case "code": return "" + count().type((char) n[1]);
            case "dropRule": return "" + count().dropRule(n[1]);
            case "winner": return "" + count().winner();
            case "fuel": return "" + count().fuel(n[1]);
            case "state": return STATES[count().state(n[1])];
            case "value": return "" + count().value(n[1]);
            case "shown": return "" + count().shown(n[1], n[2]);
            case "steps": return "" + count().steps();
            case "see": return see(n[1]);
            case "text": return text(n[1]);
            default: throw new AssertionError("no such call: " + name);
        }
    }

    /** "rule" alone makes a rule of what stands in the pad already. */
    private String formula(String[] call) {
        String text = call.length > 1 ? call[1] : "";
        int taken = 0;
        for (int i = 0; i < text.length(); i++) {
            taken += count().type(text.charAt(i)) ? 1 : 0;
        }
        return "" + (call[0].equals("rule") ? count().rule() : taken);
    }

    /** What the cursor's cell is, and its steps: 1500/3, EMPTY/1. */
    private String see(int layer) {
        int state = count().state(layer);
        int value = count().value(layer);
        String cell = state == ModelSheet.NUMBER ? "" + value : value == 0 ? STATES[state] : "not 0 but " + value;
        return cell + "/" + count().steps();
    }

    private String text(int layer) {
        StringBuilder text = new StringBuilder();
        int code = count().shown(layer, 0);
        for (int k = 1; code >= 0 && k < 30; k++) {
            text.append((char) code);
            code = count().shown(layer, k);
        }
        return text.toString();
    }
}
