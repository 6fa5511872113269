/** Promise 20 (spread). */
public final class SpreadTest {
    private static final Check CHECK = new Check("spread");

    public static void main(String[] args) {
        restsGoToTheLaterOnes();
        emptyAndZeroCells();
        aLeafCellAlone();
        theOrderIsThatOfTheLeaves();
        theLastDimensionIsTheFastest();
        greatNumbers();
        layersAreSeen();
        onlyCellsBelowAreTouched();
        spreadIsOneEdit();
        rulesHinder();
        rollsHinder();
        numbersHinder();
        fuelHinders();
        spreadIsRefused();
        CHECK.end();
    }

    /** X: 1, 2 and 3 below 0. */
    private static ModelSheet three(Integer a, Integer b, Integer c) {
        ModelSheet sheet = new ModelSheet();
        Integer[] inputs = {a, b, c};
        for (int i = 0; i < 3; i++) {
            sheet.member(0, 0, 3);
        }
        for (int i = 0; i < 3; i++) {
            if (inputs[i] != null) {
                Check.put(sheet, i + 1, 0, 0, 0, inputs[i]);
            }
        }
        Check.go(sheet, 0, 0, 0);
        return sheet;
    }

    private static String row(ModelSheet sheet, int layer) {
        StringBuilder text = new StringBuilder();
        for (int x = 1; x <= 3; x++) {
            Check.go(sheet, x, 0, 0);
            text.append(sheet.state(layer) == 0 ? "" + sheet.value(layer) : Check.text(sheet, layer)).append(' ');
        }
        Check.go(sheet, 0, 0, 0);
        return text.toString().trim();
    }

    private static void gives(Integer a, Integer b, Integer c, int v, String want) {
        ModelSheet sheet = three(a, b, c);
        CHECK.same("cells", 3, sheet.spread(0, v));
        CHECK.same("steps", 3, sheet.steps());
        CHECK.same(v + " over " + a + ", " + b + ", " + c, want, row(sheet, 0));
        CHECK.same("inputs", 3, sheet.count(5));
    }

    private static void restsGoToTheLaterOnes() {
        gives(1, 1, 1, 10, "3 3 4");
        gives(1, 1, 1, -10, "-3 -3 -4");
        gives(1, 1, 1, 11, "3 4 4");
        gives(1, 1, 1, -11, "-3 -4 -4");
        gives(1, 2, 3, 100, "16 34 50");
        gives(5, 0, 5, 7, "3 0 4");
        gives(0, 0, 9, 7, "0 0 7");
        gives(1500, 500, null, 1000, "750 250 0");
        gives(1, 1, 1, 0, "0 0 0");
        gives(1, 1, 1, 1, "0 0 1");
        gives(1, 1, 1, 2, "0 1 1");
    }

    private static void emptyAndZeroCells() {
        gives(null, null, null, 10, "3 3 4");
        gives(0, null, 0, 10, "3 3 4");
        gives(null, null, null, -11, "-3 -4 -4");
        gives(null, null, null, 2000000000, "666666666 666666667 666666667");
        gives(null, null, null, 0, "0 0 0");
        gives(null, 4, null, 9, "0 9 0");
    }

    private static void aLeafCellAlone() {
        ModelSheet sheet = three(1, null, 3);
        Check.go(sheet, 1, 0, 0);
        CHECK.same("one cell", 1, sheet.spread(0, -50));
        CHECK.same("of those", "-50 empty 3", row(sheet, 0));
        Check.go(sheet, 2, 0, 0);
        CHECK.same("one empty cell", 1, sheet.spread(0, 60));
        CHECK.same("of these", "-50 60 3", row(sheet, 0));
        CHECK.same("roll 3 of a leaf does not hinder", 3, sheet.about(0, 2, 1) + sheet.steps() - 1);
    }

    private static void theOrderIsThatOfTheLeaves() {
        ModelSheet sheet = new ModelSheet();
        sheet.member(0, 0, 1);
        sheet.member(0, 0, 1);
        sheet.member(0, 0, 1);
        sheet.move(0, 3, 1);
        sheet.member(0, 0, 1);
        sheet.move(0, 2, 4);
        CHECK.same("leaves 3, 2", "0 1", sheet.about(0, 3, 3) + " " + sheet.about(0, 2, 3));
        CHECK.same("two cells", 2, sheet.spread(0, 3));
        Check.go(sheet, 3, 0, 0);
        CHECK.same("first 3", 1, sheet.value(0));
        Check.go(sheet, 2, 0, 0);
        CHECK.same("then 2", 2, sheet.value(0));
    }

    private static void theLastDimensionIsTheFastest() {
        ModelSheet sheet = new ModelSheet();
        for (int d = 0; d < 3; d++) {
            sheet.member(d, 0, 1);
            sheet.member(d, 0, 1);
        }
        for (int cell = 0; cell < 8; cell++) {
            Check.put(sheet, 1 + cell / 4, 1 + cell / 2 % 2, 1 + cell % 2, 0, 1 << cell);
        }
        Check.go(sheet, 0, 0, 0);
        CHECK.same("cells", 8, sheet.spread(0, 1000));
        CHECK.same("steps", 8, sheet.steps());
        int before = 0;
        for (int cell = 0; cell < 8; cell++) {
            int due = 1000 * ((2 << cell) - 1) / 255;
            Check.go(sheet, 1 + cell / 4, 1 + cell / 2 % 2, 1 + cell % 2);
            CHECK.same("cell " + cell, due - before, sheet.value(0));
            before = due;
        }
        CHECK.same("one row of it", 2, spreadAt(sheet, 1, 2, 0, 7));
        CHECK.same("inner y and z", 4, spreadAt(sheet, 2, 0, 0, 7));
    }

    private static int spreadAt(ModelSheet sheet, int x, int y, int z, int v) {
        Check.go(sheet, x, y, z);
        return sheet.spread(0, v);
    }

    private static void greatNumbers() {
        int most = 2000000000;
        gives(999999999, 1000000001, 0, most, "999999999 1000000001 0");
        gives(999999999, 1000000001, 0, -most, "-999999999 -1000000001 0");
        gives(most, 0, null, most, "2000000000 0 0");
        gives(1, 1, 1, -most, "-666666666 -666666667 -666666667");
    }

    private static void layersAreSeen() {
        ModelSheet sheet = three(1, 2, null);
        sheet.layer();
        sheet.layer();
        Check.put(sheet, 2, 0, 0, 1, 1);
        Check.put(sheet, 3, 0, 0, 2, 50);
        Check.go(sheet, 0, 0, 0);
        CHECK.same("seen from layer 1", 3, sheet.spread(1, 100));
        CHECK.same("layer 1", "50 50 0", row(sheet, 1));
        CHECK.same("layer 2 over it", "50 50 50", row(sheet, 2));
        CHECK.same("the base stays", "1 2 empty", row(sheet, 0));
        CHECK.same("inputs", 6, sheet.count(5));
        CHECK.same("from the base", 3, sheet.spread(0, 9));
        CHECK.same("the base", "3 6 0", row(sheet, 0));
    }

    private static void onlyCellsBelowAreTouched() {
        ModelSheet sheet = three(1, 1, 1);
        int root = sheet.member(0, -1, 2);
        Check.put(sheet, root, 0, 0, 0, 77);
        sheet.member(1, -1, 3);
        Check.put(sheet, 1, 1, 0, 0, 78);
        sheet.pattern(0, Check.JUST, root);
        Check.rule(sheet, "1");
        sheet.member(0, root, 1);
        CHECK.same("cells", 3, spreadAt(sheet, 0, 0, 0, 6));
        CHECK.same("each of them", "2 2 2", row(sheet, 0));
        Check.go(sheet, 1, 1, 0);
        CHECK.same("not this one", 78, sheet.value(0));
        CHECK.same("inputs", 5, sheet.count(5));
    }

    private static void spreadIsOneEdit() {
        ModelSheet sheet = three(1, null, 3);
        int edits = sheet.count(6);
        sheet.undo();
        sheet.spread(0, 10);
        CHECK.same("no redo", 0, sheet.count(7));
        CHECK.same("edits", edits, sheet.count(6));
        CHECK.same("spread", "10 0 0", row(sheet, 0));
        sheet.spread(0, 10);
        CHECK.same("the same again is an edit", edits + 1, sheet.count(6));
        sheet.undo();
        CHECK.same("undone", edits - 1, sheet.undo());
        CHECK.same("as before", "1 empty empty", row(sheet, 0));
        CHECK.same("redone", 1, sheet.redo());
        CHECK.same("as it was", "10 0 0", row(sheet, 0));
    }

    private static void rulesHinder() {
        ModelSheet sheet = three(1, 2, 3);
        sheet.pattern(0, Check.JUST, 2);
        Check.rule(sheet, "1");
        CHECK.refused("a leaf cell's rule, with an input", Check.STATE, sheet, () -> sheet.spread(0, 6));
        sheet.dropRule(0);
        sheet.pattern(0, Check.JUST, 0);
        Check.rule(sheet, "1");
        CHECK.refused("the cell's own rule", Check.STATE, sheet, () -> sheet.spread(0, 6));
        CHECK.same("not from a leaf", 1, spreadAt(sheet, 1, 0, 0, 9));
        sheet.dropRule(0);
        sheet.member(1, 0, 1);
        sheet.member(1, 1, 1);
        sheet.pattern(1, Check.JUST, 1);
        sheet.pattern(0, Check.JUST, 3);
        Check.rule(sheet, "1");
        Check.go(sheet, 0, 0, 0);
        CHECK.refused("an inner cell's rule", Check.STATE, sheet, () -> sheet.spread(0, 6));
        CHECK.same("below it", 3, spreadAt(sheet, 0, 2, 0, 9));
        CHECK.same("beside it", 1, spreadAt(sheet, 2, 0, 0, 9));
    }

    private static void rollsHinder() {
        for (int roll = 0; roll <= 4; roll++) {
            ModelSheet sheet = new ModelSheet();
            sheet.member(1, 0, 1);
            int inner = sheet.member(2, 0, roll);
            int leaf = sheet.member(2, inner, 4);
            if (roll == 1) {
                CHECK.same("roll 1", 1, sheet.spread(0, 6));
            } else {
                CHECK.refused("roll " + roll + " below", Check.STATE, sheet, () -> sheet.spread(0, 6));
                Check.go(sheet, 0, 0, inner);
                CHECK.refused("roll " + roll, Check.STATE, sheet, () -> sheet.spread(0, 6));
            }
            CHECK.same("a leaf's roll does not hinder", 1, spreadAt(sheet, 0, 0, leaf, 6));
        }
        for (int d = 0; d < 3; d++) {
            ModelSheet sheet = new ModelSheet();
            sheet.member(d, -1, 1);
            sheet.drop(d, 0);
            sheet.member(d, -1, 2);
            sheet.move(d, 1, 0);
            CHECK.refused("roll 2 of member 0 in " + d, Check.STATE, sheet, () -> sheet.spread(0, 6));
            sheet.at(d, 1);
            CHECK.same("its leaf in " + d, 1, sheet.spread(0, 6));
        }
        ModelSheet sheet = new ModelSheet();
        int above = sheet.member(0, -1, 3);
        sheet.move(0, 0, above);
        CHECK.same("nor one above", 1, sheet.spread(0, 6));
    }

    private static void numbersHinder() {
        ModelSheet below = three(5, -1, 3);
        CHECK.refused("one below 0", Check.STATE, below, () -> below.spread(0, 6));
        ModelSheet great = three(2000000000, 1, null);
        CHECK.refused("all is no number", Check.STATE, great, () -> great.spread(0, 6));
        ModelSheet layers = three(5, -1, 3);
        layers.layer();
        Check.put(layers, 2, 0, 0, 1, 1);
        Check.go(layers, 0, 0, 0);
        CHECK.refused("seen from the base", Check.STATE, layers, () -> layers.spread(0, 6));
        CHECK.same("not seen from layer 1", 3, layers.spread(1, 6));
    }

    private static void fuelHinders() {
        ModelSheet sheet = three(1, 2, 3);
        sheet.fuel(2);
        CHECK.refused("three are too many", Check.STATE, sheet, () -> sheet.spread(0, 6));
        sheet.fuel(3);
        CHECK.same("three are enough", 3, sheet.spread(0, 6));
        ModelSheet all = new ModelSheet();
        for (int d = 0; d < 3; d++) {
            for (int m = 1; m < 6; m++) {
                all.member(d, 0, 1);
            }
        }
        CHECK.same("the most below one", 125, all.spread(0, 125000));
        CHECK.same("steps", 125, all.steps());
        CHECK.same("all of it", "125/156", Check.look(all, 0, 0, 0, 0));
    }

    private static void spreadIsRefused() {
        ModelSheet sheet = three(-1, 2, 3);
        CHECK.refused("layer 1", Check.NO_SUCH, sheet, () -> sheet.spread(1, 2000000001));
        CHECK.refused("layer -1", Check.NO_SUCH, sheet, () -> sheet.spread(-1, 1));
        CHECK.refused("too great", Check.ARGUMENT, sheet, () -> sheet.spread(0, 2000000001));
        CHECK.refused("too small", Check.ARGUMENT, sheet, () -> sheet.spread(0, -2000000001));
        sheet.at(1, 1);
        CHECK.refused("no cell", Check.NO_SUCH, sheet, () -> sheet.spread(0, 2000000001));
    }
}
