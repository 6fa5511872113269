/** Promises 5 (at), 10 (put), 11 (erase), 18 (layer), 19 (dropLayer) and 25 (filled). */
public final class InputsTest {
    private static final Check CHECK = new Check("inputs");

    public static void main(String[] args) {
        theCursorMoves();
        theCursorIsRefused();
        inputsAreSeen();
        putIsRefused();
        inputsAreErased();
        eraseIsRefused();
        layersLieOverOneAnother();
        layersAreDropped();
        layersAreMerged();
        layersForgetEdits();
        thePartThatIsFilled();
        filledIsRefused();
        CHECK.end();
    }

    private static void theCursorMoves() {
        ModelSheet sheet = new ModelSheet();
        for (int d = 0; d < 3; d++) {
            CHECK.same("from 0", 0, sheet.at(d, 5 - d));
        }
        for (int d = 0; d < 3; d++) {
            CHECK.same("what it was in " + d, 5 - d, sheet.at(d, 0));
        }
        sheet.member(1, -1, 1);
        sheet.at(1, 1);
        sheet.drop(1, 1);
        CHECK.same("it stays on a member that goes", 1, sheet.at(1, 1));
        CHECK.same("no cell there", "NoSuchElementException", Check.thrown(() -> sheet.value(0)));
        sheet.member(1, -1, 1);
        CHECK.same("a cell again", 0, sheet.value(0));
    }

    private static void theCursorIsRefused() {
        ModelSheet sheet = new ModelSheet();
        sheet.at(0, 4);
        CHECK.refused("dimension 3", Check.NO_SUCH, sheet, () -> sheet.at(3, 9));
        CHECK.refused("dimension -1", Check.NO_SUCH, sheet, () -> sheet.at(-1, 0));
        CHECK.refused("member 6", Check.ARGUMENT, sheet, () -> sheet.at(0, 6));
        CHECK.refused("member -1", Check.ARGUMENT, sheet, () -> sheet.at(0, -1));
    }

    private static void inputsAreSeen() {
        ModelSheet sheet = new ModelSheet();
        sheet.member(0, -1, 1);
        sheet.member(1, -1, 1);
        sheet.member(2, -1, 1);
        int v = 0;
        for (int cell = 0; cell < 8; cell++) {
            Check.put(sheet, cell / 4, cell / 2 % 2, cell % 2, 0, v += 7);
        }
        CHECK.same("inputs", 8, sheet.count(5));
        v = 0;
        for (int cell = 0; cell < 8; cell++) {
            Check.go(sheet, cell / 4, cell / 2 % 2, cell % 2);
            CHECK.same("input " + cell, v += 7, sheet.value(0));
        }
        sheet.put(0, -2000000000);
        CHECK.same("the least number", -2000000000, sheet.value(0));
        sheet.put(0, 2000000000);
        CHECK.same("the greatest number", 2000000000, sheet.value(0));
        CHECK.same("still", 8, sheet.count(5));
        Check.rule(sheet, "5");
        CHECK.same("an input goes before a rule", "2000000/1", Check.look(sheet, 0, 1, 1, 1));
        sheet.put(0, 0);
        CHECK.same("a 0, too", "0/1", Check.look(sheet, 0, 1, 1, 1));
    }

    private static void putIsRefused() {
        ModelSheet sheet = new ModelSheet();
        sheet.member(2, 0, 1);
        sheet.at(2, 1);
        sheet.put(0, 4);
        sheet.put(0, 5);
        sheet.undo();
        CHECK.refused("layer 1", Check.NO_SUCH, sheet, () -> sheet.put(1, 2000000001));
        CHECK.refused("layer -1", Check.NO_SUCH, sheet, () -> sheet.put(-1, 1));
        CHECK.refused("too great", Check.ARGUMENT, sheet, () -> sheet.put(0, 2000000001));
        CHECK.refused("too small", Check.ARGUMENT, sheet, () -> sheet.put(0, -2000000001));
        CHECK.refused("the least int", Check.ARGUMENT, sheet, () -> sheet.put(0, Integer.MIN_VALUE));
        CHECK.refused("the greatest int", Check.ARGUMENT, sheet, () -> sheet.put(0, Integer.MAX_VALUE));
        sheet.at(2, 0);
        CHECK.refused("an inner cell", Check.STATE, sheet, () -> sheet.put(0, 1));
        CHECK.refused("no number first", Check.ARGUMENT, sheet, () -> sheet.put(0, 2000000001));
        sheet.at(1, 1);
        CHECK.refused("no cell", Check.NO_SUCH, sheet, () -> sheet.put(0, 2000000001));
        CHECK.same("redo is still there", 0, sheet.redo());
    }

    private static void inputsAreErased() {
        ModelSheet sheet = new ModelSheet();
        CHECK.same("none was there", false, sheet.erase(0));
        CHECK.same("no edit", 0, sheet.count(6));
        sheet.put(0, 5);
        sheet.put(0, 6);
        sheet.undo();
        sheet.layer();
        sheet.put(1, 8);
        sheet.undo();
        CHECK.same("none in layer 1", false, sheet.erase(1));
        CHECK.same("redo is still there", 1, sheet.count(7));
        CHECK.same("the base has one", true, sheet.erase(0));
        CHECK.same("an edit", 1, sheet.count(6));
        CHECK.same("no redo", 0, sheet.count(7));
        CHECK.same("no more", false, sheet.erase(0));
        CHECK.same("empty", ModelSheet.EMPTY, sheet.state(1));
        sheet.put(0, 0);
        CHECK.same("a 0 is an input", true, sheet.erase(0));
        sheet.put(0, 3);
        sheet.member(0, 0, 1);
        CHECK.same("of an inner cell", true, sheet.erase(0));
        CHECK.same("no inputs", 0, sheet.count(5));
        sheet.undo();
        CHECK.same("undone", 1, sheet.count(5));
    }

    private static void eraseIsRefused() {
        ModelSheet sheet = new ModelSheet();
        sheet.put(0, 5);
        CHECK.refused("layer 1", Check.NO_SUCH, sheet, () -> sheet.erase(1));
        CHECK.refused("layer -1", Check.NO_SUCH, sheet, () -> sheet.erase(-1));
        sheet.at(0, 1);
        CHECK.refused("no cell", Check.NO_SUCH, sheet, () -> sheet.erase(0));
    }

    private static void layersLieOverOneAnother() {
        ModelSheet sheet = new ModelSheet();
        sheet.put(0, 1000);
        CHECK.same("layer 1", 1, sheet.layer());
        CHECK.same("layer 2", 2, sheet.layer());
        CHECK.refused("a fourth", Check.STATE, sheet, sheet::layer);
        CHECK.same("layers", 3, sheet.count(4));
        sheet.put(2, 3000);
        CHECK.same("from the base", "1/1", Check.look(sheet, 0, 0, 0, 0));
        CHECK.same("from layer 1", "1/1", Check.look(sheet, 1, 0, 0, 0));
        CHECK.same("from layer 2", "3/1", Check.look(sheet, 2, 0, 0, 0));
        sheet.put(1, 2000);
        sheet.erase(2);
        CHECK.same("the nearest one", "2/1", Check.look(sheet, 2, 0, 0, 0));
        sheet.erase(0);
        CHECK.same("none downwards", "empty/1", Check.look(sheet, 0, 0, 0, 0));
        sheet.member(0, -1, 1);
        Check.put(sheet, 1, 0, 0, 0, 500);
        sheet.member(0, -1, 1);
        sheet.move(0, 0, 2);
        sheet.move(0, 1, 2);
        CHECK.same("all cells from the same layer", "2.5/3", Check.look(sheet, 1, 2, 0, 0));
        CHECK.same("and from the base", "0.5/3", Check.look(sheet, 0, 2, 0, 0));
    }

    private static void layersAreDropped() {
        ModelSheet sheet = new ModelSheet();
        sheet.member(0, -1, 1);
        CHECK.refused("the base", Check.STATE, sheet, () -> sheet.dropLayer(true));
        CHECK.refused("the base, not merged", Check.STATE, sheet, () -> sheet.dropLayer(false));
        sheet.layer();
        sheet.put(0, 1);
        sheet.put(1, 2);
        Check.put(sheet, 1, 0, 0, 1, 3);
        CHECK.same("two inputs go", 2, sheet.dropLayer(false));
        CHECK.same("inputs", 1, sheet.count(5));
        CHECK.same("layers", 1, sheet.count(4));
        CHECK.refused("layer 1 is gone", Check.NO_SUCH, sheet, () -> sheet.value(1));
        CHECK.same("the base as it was", "0.001/1", Check.look(sheet, 0, 0, 0, 0));
        CHECK.same("layer 1 again", 1, sheet.layer());
        CHECK.same("without inputs", "empty/1", Check.look(sheet, 1, 1, 0, 0));
        CHECK.same("none go", 0, sheet.dropLayer(true));
    }

    private static void layersAreMerged() {
        ModelSheet sheet = new ModelSheet();
        sheet.member(0, -1, 1);
        sheet.member(0, -1, 1);
        sheet.layer();
        sheet.layer();
        sheet.put(0, 1);
        Check.put(sheet, 1, 0, 0, 1, 2);
        Check.put(sheet, 2, 0, 0, 1, 3);
        Check.put(sheet, 1, 0, 0, 2, 0);
        Check.put(sheet, 0, 0, 0, 2, 5);
        sheet.member(0, 1, 1);
        CHECK.same("two, one of them unseen", 2, sheet.dropLayer(true));
        CHECK.same("inputs then", 4, sheet.count(5));
        sheet.drop(0, 3);
        CHECK.same("in place of that there", "0/1", Check.look(sheet, 1, 1, 0, 0));
        CHECK.same("one that was not there", "0.005/1", Check.look(sheet, 1, 0, 0, 0));
        CHECK.same("those without stay", "0.003/1", Check.look(sheet, 1, 2, 0, 0));
        CHECK.same("the base stays", "0.001/1", Check.look(sheet, 0, 0, 0, 0));
        CHECK.same("three into the base", 3, sheet.dropLayer(true));
        CHECK.same("inputs of the base", 3, sheet.count(5));
        CHECK.same("the base's now", "0.005/1", Check.look(sheet, 0, 0, 0, 0));
    }

    private static void layersForgetEdits() {
        ModelSheet sheet = new ModelSheet();
        sheet.put(0, 1);
        sheet.put(0, 2);
        sheet.undo();
        sheet.layer();
        CHECK.same("none to undo", 0, sheet.count(6));
        CHECK.same("none to redo", 0, sheet.count(7));
        sheet.put(1, 1);
        sheet.put(1, 2);
        sheet.undo();
        sheet.dropLayer(false);
        CHECK.same("none to undo then", 0, sheet.count(6));
        CHECK.same("none to redo then", 0, sheet.count(7));
        CHECK.same("the base", 1, sheet.value(0));
    }

    private static void thePartThatIsFilled() {
        ModelSheet sheet = new ModelSheet();
        sheet.member(0, 0, 1);
        sheet.member(0, 0, 1);
        sheet.member(1, -1, 1);
        sheet.member(1, -1, 1);
        sheet.layer();
        CHECK.same("none", 0f, sheet.filled(0));
        Check.put(sheet, 1, 0, 0, 0, 0);
        CHECK.same("a sixth", 1f / 6f, sheet.filled(0));
        Check.put(sheet, 1, 0, 0, 1, 5);
        CHECK.same("the same cell in two layers", 1f / 6f, sheet.filled(1));
        Check.put(sheet, 2, 2, 0, 1, 5);
        CHECK.same("a third from layer 1", 2f / 6f, sheet.filled(1));
        CHECK.same("a sixth from the base", 1f / 6f, sheet.filled(0));
        Check.rule(sheet, "1");
        CHECK.same("rules do not fill", 1f / 6f, sheet.filled(0));
        sheet.member(0, 1, 1);
        CHECK.same("an unseen input does not fill", 0f, sheet.filled(0));
        CHECK.same("but one is left above", 1f / 6f, sheet.filled(1));
        sheet.member(0, -1, 1);
        CHECK.same("one of nine", 1f / 9f, sheet.filled(1));
        sheet.at(0, 5);
        CHECK.same("wherever the cursor is", 1f / 9f, sheet.filled(1));
    }

    private static void filledIsRefused() {
        ModelSheet sheet = new ModelSheet();
        CHECK.refused("layer 1", Check.NO_SUCH, sheet, () -> sheet.filled(1));
        CHECK.refused("layer -1", Check.NO_SUCH, sheet, () -> sheet.filled(-1));
        sheet.drop(0, 0);
        CHECK.refused("layer 1 without cells", Check.NO_SUCH, sheet, () -> sheet.filled(1));
    }
}
