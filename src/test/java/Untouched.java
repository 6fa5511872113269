import java.util.ArrayList;
import java.util.List;

/**
 * Whether a call changes nothing: the same run is made on new sheets with it and without it, and these
 * are asked for all that they can tell, each a part of it, so that none has more than 512 calls. Then
 * once more behind a few calls that leave edits to undo and to redo, a text in the pad and patterns.
 */
final class Untouched {
    private static final int LEFT = 12;

    /** What has changed, or null. */
    static String change(List<String> made, String call) {
        String change = changeBehind(made, call);
        List<String> more = new ArrayList<>(made);
        more.addAll(leftovers(made));
        boolean same = change == null && answer(made, call).equals(answer(more, call));
        return same ? changeBehind(more, call) : change;
    }

    private static String answer(List<String> made, String call) {
        Teller teller = new Teller();
        made.forEach(teller::tell);
        return teller.tell(call);
    }

    /** None if there is no leaf cell. */
    private static List<String> leftovers(List<String> made) {
        Teller teller = new Teller();
        made.forEach(teller::tell);
        String cursor = teller.tell("go 0 0 0");
        StringBuilder cell = new StringBuilder();
        List<String> rows = new ArrayList<>(List.of("type 7"));
        for (int d = 0; d < 3; d++) {
            int leaf = firstLeaf(teller, d);
            if (leaf < 0) {
                return List.of();
            }
            cell.append(' ').append(leaf);
            rows.add("pattern " + d + " 1 " + leaf);
        }
        rows.addAll(List.of("go" + cell, "put 0 5", "put 0 6", "undo", "go " + cursor));
        return rows;
    }

    private static int firstLeaf(Teller teller, int d) {
        int leaf = 5;
        while (leaf >= 0 && !teller.tell("about " + d + " " + leaf + " 3").equals("0")) {
            leaf--;
        }
        return leaf;
    }

    private static String changeBehind(List<String> made, String call) {
        String change = compared(made, call, counts());
        change = change != null ? change : compared(made, call, members());
        change = change != null ? change : compared(made, call, draft());
        change = change != null ? change : compared(made, call, edits());
        for (int x = 0; x < 6 && change == null; x++) {
            change = compared(made, call, cells(x));
        }
        return change;
    }

    private static String compared(List<String> made, String call, List<String> rows) {
        Teller without = new Teller();
        Teller with = new Teller();
        made.forEach(without::tell);
        made.forEach(with::tell);
        with.tell(call);
        for (String row : rows) {
            if (with.left() < LEFT) {
                return null;
            }
            String before = without.tell(row);
            String behind = with.tell(row);
            if (!before.equals(behind)) {
                return row + " told " + before + " without it, " + behind + " behind it";
            }
        }
        return null;
    }

    private static List<String> counts() {
        List<String> rows = new ArrayList<>(List.of("steps"));
        for (int what = 0; what <= 8; what++) {
            rows.add("count " + what);
        }
        for (int layer = 0; layer < 3; layer++) {
            rows.add("filled " + layer);
        }
        rows.addAll(List.of("winner", "see 0", "text 0", "go 0 0 0", "fuel 7"));
        return rows;
    }

    private static List<String> members() {
        List<String> rows = new ArrayList<>();
        for (int d = 0; d < 3; d++) {
            for (int m = 0; m < 6; m++) {
                for (int what = 0; what < 4; what++) {
                    rows.add("about " + d + " " + m + " " + what);
                }
            }
        }
        for (int d = 0; d < 3; d++) {
            rows.add("member " + d + " -1 1");
        }
        return rows;
    }

    /** The pad's text and the next rule's patterns show in the rule that they make. */
    private static List<String> draft() {
        List<String> rows = new ArrayList<>(List.of("rule", "count 3", "dropRule 0", "rule 7", "count 3"));
        for (int cell = 0; cell < 64; cell++) {
            rows.add("go " + cell / 16 + " " + cell / 4 % 4 + " " + cell % 4);
            rows.add("winner");
            rows.add("see 0");
        }
        return rows;
    }

    private static List<String> edits() {
        List<String> rows = new ArrayList<>();
        for (String step : List.of("redo", "undo", "redo")) {
            for (int i = 0; i < 13; i++) {
                rows.addAll(List.of(step, "count 5", "see 0", "see 1"));
            }
        }
        return rows;
    }

    private static List<String> cells(int x) {
        List<String> rows = new ArrayList<>();
        for (int cell = 0; cell < 36; cell++) {
            rows.addAll(List.of("go " + x + " " + cell / 6 + " " + cell % 6, "winner", "see 2", "see 1", "see 0"));
        }
        return rows;
    }
}
