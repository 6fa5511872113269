/** Promises 21 (undo), 22 (redo) and 23 (count). */
public final class EditsTest {
    private static final Check CHECK = new Check("edits");

    public static void main(String[] args) {
        editsAreUndoneAndRedone();
        theLatestTwelveAreKept();
        aNewEditEndsRedoing();
        theSameIsAnEdit();
        editsOfSeveralLayers();
        changesForgetEdits();
        whatIsRefusedForgetsNothing();
        emptyHistoriesAreRefused();
        allIsCounted();
        CHECK.end();
    }

    private static void editsAreUndoneAndRedone() {
        ModelSheet sheet = new ModelSheet();
        sheet.put(0, 1);
        sheet.put(0, 2);
        sheet.erase(0);
        sheet.spread(0, 3);
        CHECK.same("four", 4, sheet.count(6));
        CHECK.same("spread undone", 3, sheet.undo());
        CHECK.same("it is empty", ModelSheet.EMPTY, sheet.state(0));
        CHECK.same("erase undone", 2, sheet.undo());
        CHECK.same("it is 2", 2, sheet.value(0));
        CHECK.same("put undone", 1, sheet.undo());
        CHECK.same("it is 1", 1, sheet.value(0));
        CHECK.same("the first undone", 0, sheet.undo());
        CHECK.same("nothing is there", ModelSheet.EMPTY, sheet.state(0));
        CHECK.same("no inputs", 0, sheet.count(5));
        CHECK.same("to redo", 4, sheet.count(7));
        CHECK.same("redone", 3, sheet.redo());
        CHECK.same("it is 1 again", 1, sheet.value(0));
        CHECK.same("redone 2", 2, sheet.redo());
        CHECK.same("it is 2 again", 2, sheet.value(0));
        CHECK.same("undone again", 1, sheet.undo());
        CHECK.same("it is 1 once more", 1, sheet.value(0));
        sheet.redo();
        CHECK.same("redone 3", 1, sheet.redo());
        CHECK.same("it is empty again", ModelSheet.EMPTY, sheet.state(0));
        CHECK.same("redone 4", 0, sheet.redo());
        CHECK.same("it is 3", 3, sheet.value(0));
        CHECK.same("the cursor need not tell a cell", 3, moved(sheet).undo());
    }

    private static ModelSheet moved(ModelSheet sheet) {
        sheet.at(0, 5);
        return sheet;
    }

    private static void theLatestTwelveAreKept() {
        ModelSheet sheet = new ModelSheet();
        for (int v = 1; v <= 17; v++) {
            sheet.put(0, v);
            CHECK.same("edits behind " + v, Math.min(v, 12), sheet.count(6));
        }
        for (int v = 16; v >= 5; v--) {
            CHECK.same("undone to " + v, v - 5, sheet.undo());
            CHECK.same("value " + v, v, sheet.value(0));
        }
        CHECK.refused("the older ones stay", Check.STATE, sheet, sheet::undo);
        for (int v = 6; v <= 17; v++) {
            CHECK.same("redone to " + v, 17 - v, sheet.redo());
            CHECK.same("value " + v + " again", v, sheet.value(0));
        }
        CHECK.refused("no more to redo", Check.STATE, sheet, sheet::redo);
        sheet.put(0, 18);
        CHECK.same("still twelve", 12, sheet.count(6));
        CHECK.same("undo goes on", 11, sheet.undo());
        CHECK.same("to 17", 17, sheet.value(0));
    }

    private static void aNewEditEndsRedoing() {
        ModelSheet sheet = new ModelSheet();
        for (int v = 1; v <= 12; v++) {
            sheet.put(0, v);
        }
        for (int i = 0; i < 5; i++) {
            sheet.undo();
        }
        sheet.put(0, 100);
        CHECK.same("to undo", 8, sheet.count(6));
        CHECK.refused("nothing to redo", Check.STATE, sheet, sheet::redo);
        CHECK.same("undone", 7, sheet.undo());
        CHECK.same("value 7", 7, sheet.value(0));
        CHECK.same("undone again", 6, sheet.undo());
        CHECK.same("value 6", 6, sheet.value(0));
        CHECK.same("looking keeps them", 2, sheet.count(7));
        sheet.redo();
        sheet.redo();
        CHECK.same("value 100", 100, sheet.value(0));
    }

    private static void theSameIsAnEdit() {
        ModelSheet sheet = new ModelSheet();
        sheet.put(0, 5);
        sheet.put(0, 5);
        sheet.spread(0, 5);
        CHECK.same("three", 3, sheet.count(6));
        sheet.undo();
        CHECK.same("undone", 1, sheet.undo());
        CHECK.same("it is 5", 5, sheet.value(0));
    }

    private static void editsOfSeveralLayers() {
        ModelSheet sheet = new ModelSheet();
        sheet.member(0, -1, 1);
        sheet.layer();
        sheet.put(0, 1);
        sheet.put(1, 2);
        Check.put(sheet, 1, 0, 0, 0, 3);
        Check.put(sheet, 0, 0, 0, 0, 4);
        sheet.undo();
        CHECK.same("the base is 1", 1, sheet.value(0));
        CHECK.same("layer 1 is 2", 2, sheet.value(1));
        sheet.undo();
        sheet.undo();
        CHECK.same("layer 1 sees the base", 1, sheet.value(1));
        CHECK.same("x1 is empty", "empty/1", Check.look(sheet, 1, 1, 0, 0));
        sheet.redo();
        sheet.redo();
        CHECK.same("x1 is 3", "0.003/1", Check.look(sheet, 1, 1, 0, 0));
        CHECK.same("layer 1 is 2 again", "0.002/1", Check.look(sheet, 1, 0, 0, 0));
    }

    private interface Change {
        void make(ModelSheet sheet);
    }

    private static void forgets(String what, Change change) {
        ModelSheet sheet = new ModelSheet();
        sheet.member(0, -1, 1);
        sheet.layer();
        Check.rule(sheet, "1");
        sheet.put(0, 1);
        sheet.put(1, 2);
        sheet.undo();
        change.make(sheet);
        CHECK.same(what + " forgets what can be undone", 0, sheet.count(6));
        CHECK.same(what + " forgets what can be redone", 0, sheet.count(7));
    }

    private static void changesForgetEdits() {
        forgets("member", sheet -> sheet.member(2, 0, 1));
        forgets("move", sheet -> sheet.move(0, 1, 0));
        forgets("move to the same place", sheet -> sheet.move(0, 1, -1));
        forgets("drop", sheet -> sheet.drop(0, 1));
        forgets("rule", sheet -> Check.rule(sheet, "1"));
        forgets("dropRule", sheet -> sheet.dropRule(0));
        forgets("layer", ModelSheet::layer);
        forgets("dropLayer", sheet -> sheet.dropLayer(false));
        forgets("dropLayer that merges", sheet -> sheet.dropLayer(true));
    }

    private static void whatIsRefusedForgetsNothing() {
        ModelSheet sheet = new ModelSheet();
        sheet.put(0, 1);
        sheet.put(0, 2);
        sheet.undo();
        Check.thrown(() -> sheet.member(0, 3, 1));
        Check.thrown(() -> sheet.move(0, 0, 0));
        Check.thrown(() -> sheet.dropRule(0));
        Check.thrown(() -> sheet.dropLayer(true));
        Check.thrown(() -> sheet.put(0, Integer.MAX_VALUE));
        Check.rule(sheet, "1+");
        sheet.type('x');
        sheet.pattern(0, 1, 0);
        sheet.fuel(20);
        sheet.at(1, 3);
        CHECK.same("to undo", 1, sheet.count(6));
        CHECK.same("to redo", 1, sheet.count(7));
    }

    private static void emptyHistoriesAreRefused() {
        ModelSheet sheet = new ModelSheet();
        CHECK.refused("undo", Check.STATE, sheet, sheet::undo);
        CHECK.refused("redo", Check.STATE, sheet, sheet::redo);
        sheet.put(0, 1);
        CHECK.refused("redo without undo", Check.STATE, sheet, sheet::redo);
        sheet.undo();
        CHECK.refused("undo of none", Check.STATE, sheet, sheet::undo);
    }

    private static void allIsCounted() {
        ModelSheet sheet = new ModelSheet();
        sheet.member(0, 0, 1);
        sheet.member(1, 0, 1);
        sheet.member(1, 0, 1);
        sheet.member(2, 0, 1);
        sheet.member(2, 0, 1);
        sheet.member(2, 0, 1);
        Check.rule(sheet, "1");
        Check.rule(sheet, "2");
        sheet.layer();
        for (int v = 0; v < 5; v++) {
            Check.put(sheet, 1, 1 + v % 2, 1 + v % 3, v % 2, v);
        }
        sheet.undo();
        Check.write(sheet, "1+x0");
        int[] wants = {2, 3, 4, 2, 2, 4, 4, 1, 4};
        for (int what = 0; what <= 8; what++) {
            CHECK.same("count " + what, wants[what], sheet.count(what));
        }
        CHECK.refused("count 9", Check.ARGUMENT, sheet, () -> sheet.count(9));
        CHECK.refused("count -1", Check.ARGUMENT, sheet, () -> sheet.count(-1));
        CHECK.refused("count of the least int", Check.ARGUMENT, sheet, () -> sheet.count(Integer.MIN_VALUE));
    }
}
