/** Sentence by sentence: promise 20, spread. */
public final class BoundsSpreadTest {
    private static final Story STORY = new Story("bounds of spread");

    public static void main(String[] args) {
        parts();
        nothingThere();
        greatNumbers();
        eachOfThem();
        inOrder();
        seenFromALayer();
        rulesHinder();
        rollsHinder();
        numbersHinder();
        fuelHinders();
        spreadIsRefused();
        STORY.end();
    }

    /** x1, x2 and x3 below x0 have inputs, - for none; v is broken back over them. */
    private static void over(String sentence, String inputs, String v, String wants) {
        String[] a = inputs.split(" ");
        String[] b = wants.split(" ");
        StringBuilder rows = new StringBuilder("3x member 0 0 1;");
        for (int i = 0; i < 3; i++) {
            rows.append("go ").append(i + 1).append(" 0 0;").append(a[i].equals("-") ? "" : "put 0 " + a[i] + ";");
        }
        rows.append("go 0 0 0; spread 0 ").append(v).append(" = 3; steps = 3; count 5 = 3;"
                + "see 0 = ").append(v).append("/4;");
        for (int i = 0; i < 3; i++) {
            rows.append("go ").append(i + 1).append(" 0 0; see 0 = ").append(b[i]).append("/1;");
        }
        STORY.says(sentence, rows.toString());
    }

    private static void parts() {
        String sentence = "the first ones together get v * p / all, cut off towards zero";
        over(sentence, "1 1 1", "3", "1 1 1");
        over(sentence, "1 1 1", "1", "0 0 1");
        over(sentence, "1 1 1", "2", "0 1 1");
        over(sentence, "1 1 1", "4", "1 1 2");
        over(sentence, "1 1 1", "5", "1 2 2");
        over(sentence, "1 1 1", "-1", "0 0 -1");
        over(sentence, "1 1 1", "-2", "0 -1 -1");
        over(sentence, "1 1 1", "-4", "-1 -1 -2");
        over(sentence, "1 1 1", "-5", "-1 -2 -2");
        over(sentence, "1 2 3", "12", "2 4 6");
        over(sentence, "1 2 3", "13", "2 4 7");
        over(sentence, "3 2 1", "13", "6 4 3");
        over(sentence, "2 0 1", "10", "6 0 4");
        over(sentence, "0 0 1", "10", "0 0 10");
        over(sentence, "1 0 0", "10", "10 0 0");
        over(sentence, "0 7 0", "-10", "0 -10 0");
        over("(0s, too): v 0", "1 2 3", "0", "0 0 0");
        over("(seen from the layer; EMPTY: 0)", "- 4 -", "9", "0 9 0");
        over("(seen from the layer; EMPTY: 0)", "1 - 1", "9", "4 0 5");
        over("in place of those there", "750 250 -", "1000", "750 250 0");
    }

    private static void nothingThere() {
        String sentence = "if all is 0, v * their number / the number of all";
        over(sentence, "- - -", "9", "3 3 3");
        over(sentence, "- - -", "10", "3 3 4");
        over(sentence, "- - -", "11", "3 4 4");
        over(sentence, "- - -", "-10", "-3 -3 -4");
        over(sentence, "- - -", "-11", "-3 -4 -4");
        over(sentence, "- - -", "1", "0 0 1");
        over(sentence, "- - -", "-1", "0 0 -1");
        over(sentence, "- - -", "0", "0 0 0");
        over(sentence, "0 0 0", "10", "3 3 4");
        over(sentence, "0 - 0", "-2", "0 -1 -1");
        over("all is above 0", "0 - 1", "10", "0 0 10");
    }

    private static void greatNumbers() {
        over("v is a number: the greatest", "1 1 1", "2000000000", "666666666 666666667 666666667");
        over("v is a number: the least", "1 1 1", "-2000000000", "-666666666 -666666667 -666666667");
        over("v is a number: the greatest", "- - -", "2000000000", "666666666 666666667 666666667");
        over("v is a number: the least", "- - -", "-2000000000", "-666666666 -666666667 -666666667");
        over("all is a number: the greatest", "2000000000 - -", "2000000000", "2000000000 0 0");
        over("all is a number: the greatest", "999999999 1000000001 0", "2000000000", "999999999 1000000001 0");
        over("all is a number: the greatest", "666666667 666666667 666666666", "-1999999999",
                "-666666666 -666666667 -666666666");
        over("all is a number: the greatest", "1 1999999998 1", "1999999999", "0 1999999998 1");
        STORY.says("v is a number: over one cell", "spread 0 2000000000 = 1; see 0 = 2000000000/1",
                "spread 0 -2000000000 = 1; see 0 = -2000000000/1; erase 0; spread 0 -1 = 1; see 0 = -1/1");
    }

    private static void eachOfThem() {
        STORY.says("as inputs of a layer, each of them: how many these are", "2x member 0 0 1; 2x member 1 0 1",
                "2x member 2 0 1; spread 0 8 = 8; count 5 = 8; filled 0 = 1.0; go 1 0 0; spread 0 0 = 4; go 1 2 0",
                "spread 0 5 = 2; go 1 2 2; spread 0 5 = 1; count 5 = 8",
                "go 1 2 1; see 0 = 2/1; go 1 2 2; see 0 = 5/1; go 1 0 0; see 0 = 7/7; go 2 0 0; see 0 = 4/7");
        STORY.says("the leaf cells of the cursor's cell: a leaf cell itself", "member 0 -1 1; put 0 3",
                "spread 0 7 = 1; see 0 = 7/1; steps = 1; go 1 0 0; see 0 = EMPTY/1; count 5 = 1; count 6 = 2",
                "spread 0 0 = 1; count 5 = 2; see 0 = 0/1");
        STORY.says("with leaves at or below the cell's members: no others", "member 0 -1 1; 2x member 0 1 1; put 0 9",
                "member 1 -1 1; go 2 1 0; put 0 8; go 1 0 0; spread 0 5 = 2; go 0 0 0; see 0 = 9/1; go 2 1 0",
                "see 0 = 8/1; go 3 1 0; see 0 = EMPTY/1",
                "go 2 0 0; see 0 = 2/1; go 3 0 0; see 0 = 3/1; count 5 = 4");
        STORY.says("an unseen input of an inner cell is none of them", "put 0 100; member 0 0 1; member 0 1 1",
                "go 1 0 0; spread 0 5 = 1; count 5 = 2; go 0 0 0; spread 0 6 = 1; count 5 = 2; see 0 = 6/3",
                "drop 0 2 = 1; drop 0 1 = 0; see 0 = 100/1");
        STORY.says("the most leaf cells", "member 0 -1 1; 4x member 0 1 1; 5x member 1 0 1; 5x member 2 0 1",
                "go 1 0 0; spread 0 100 = 100; steps = 100; see 0 = 100/125; go 1 0 1; spread 0 100 = 20; undo = 1",
                "see 0 = 20/25");
    }

    private static void inOrder() {
        STORY.says("in order: of the walk", "member 0 0 1; member 0 0 1; member 0 0 1; move 0 3 1; spread 0 3 = 2",
                "go 3 0 0; see 0 = 1/1; go 2 0 0; see 0 = 2/1; move 0 2 1; move 0 3 0; go 0 0 0; erase 0 = false",
                "spread 0 1 = 2",
                "go 2 0 0; see 0 = 0/1; go 3 0 0; see 0 = 1/1");
        String eight = "2x member 0 0 1; 2x member 1 0 1; 2x member 2 0 1; spread 0 V = 8;";
        STORY.says("X first, then Y, then Z (the last one fastest)", eight.replace("V", "1")
                + "go 2 2 2; see 0 = 1/1; go 2 2 1; see 0 = 0/1; go 1 1 1; see 0 = 0/1");
        STORY.says("X first, then Y, then Z (the last one fastest)", "2x member 0 0 1; 2x member 1 0 1",
                "2x member 2 0 1; go 1 1 1; put 0 1; go 1 1 2; put 0 2; go 1 2 1; put 0 4; go 2 1 1; put 0 5",
                "go 2 2 2; put 0 8; go 0 0 0; spread 0 10 = 8",
                "go 1 1 1; value 0 = 0; go 1 1 2; value 0 = 1; go 1 2 1; value 0 = 2; go 1 2 2; value 0 = 0",
                "go 2 1 1; value 0 = 3; go 2 1 2; value 0 = 0; go 2 2 1; value 0 = 0; go 2 2 2; value 0 = 4");
        STORY.says("X first, then Y", "2x member 0 0 1; 2x member 1 0 1; spread 0 2 = 4; go 1 1 0; value 0 = 0",
                "go 1 2 0; value 0 = 1; go 2 1 0; value 0 = 0; go 2 2 0; value 0 = 1; go 0 0 0; spread 0 0",
                "spread 0 3; go 1 2 0; value 0 = 1; go 2 1 0; value 0 = 1");
    }

    private static void seenFromALayer() {
        String two = "2x member 0 0 1; 2x layer; go 1 0 0; put 0 1; go 2 0 0; put 0 2; put 1 1; put 2 9; go 0 0 0;";
        STORY.says("(seen from the layer)", two + "spread 1 10 = 2; count 5 = 5; go 1 0 0; see 1 = 5/1; see 0 = 1/1",
                "see 2 = 5/1; go 2 0 0; see 1 = 5/1; see 0 = 2/1; see 2 = 9/1");
        STORY.says("(seen from the layer)", two + "spread 0 30 = 2; count 5 = 4; go 1 0 0; see 0 = 10/1",
                "see 1 = 10/1; go 2 0 0; see 0 = 20/1; see 1 = 1/1; see 2 = 9/1");
        STORY.says("(seen from the layer)", two + "spread 2 100 = 2; count 5 = 5; see 2 = 100/3; see 1 = 2/3",
                "see 0 = 3/3; go 1 0 0; see 2 = 10/1; go 2 0 0; see 2 = 90/1; undo = 4; see 2 = 9/1; count 5 = 4",
                "redo = 0; see 2 = 90/1");
    }

    private static void rulesHinder() {
        String tree = "2x member 0 0 1; member 1 0 1; go 1 1 0; put 0 1; put 0 2; undo; go 0 0 0;";
        String[] patterns = {"", "pattern 0 1 0;", "pattern 0 1 1;", "pattern 0 1 2;", "pattern 0 2 0;",
                "pattern 0 2 1;", "pattern 1 1 0;", "pattern 1 1 1;", "pattern 1 2 1;", "pattern 2 1 0;",
                "pattern 2 2 0;", "pattern 0 1 0; pattern 1 1 0;",
            "pattern 0 1 2; pattern 1 1 1;", "pattern 0 1 1; pattern 1 1 0;", "pattern 0 1 0; pattern 1 2 1;",
            "pattern 0 2 1; pattern 1 2 1; pattern 2 2 0;"};
        for (String pattern : patterns) {
            STORY.says("some cell among these, or inner one at or below the cell's members, has a rule that wins",
                    tree + pattern + "rule 7 = 0; spread 0 6 ! state; dropRule 0; spread 0 6 = 2");
        }
        STORY.says("a rule for other cells does not hinder", tree + "member 0 -1 1; member 1 -1 1; pattern 0 1 3",
                "rule 7; pattern 1 1 2; rule 7; pattern 0 2 3; rule 7; spread 0 6 = 2; go 1 0 0; pattern 0 1 0",
                "rule 7; pattern 0 1 2; rule 7; spread 0 6 = 1; go 1 1 0; pattern 1 1 0; rule 8",
                "spread 0 6 = 1; go 0 0 0; spread 0 6 ! state; go 1 0 0; spread 0 6 ! state");
        STORY.says("a rule that fits no cell does not hinder", tree + "pattern 0 1 1; pattern 1 2 0; pattern 2 1 0",
                "rule 7; go 2 0 0; spread 0 5 = 1; pattern 0 1 0; pattern 1 1 1; rule 7; spread 0 5 = 1");
        STORY.says("with an input, too", "put 0 5; put 0 6; undo; rule 7; spread 0 6 ! state; put 0 1",
                "spread 0 6 ! state; dropRule 0; spread 0 6 = 1");
    }

    private static void rollsHinder() {
        for (int roll = 0; roll < 5; roll++) {
            String want = roll == 1 ? "= 1" : "! state";
            STORY.inEachDimension("an inner member at or below the cell's has a roll other than 1: roll " + roll,
                    "member D -1 " + roll + "; member D 1 0; at D 2; put 0 1; put 0 2; undo; at D 1; spread 0 6 "
                    + want);
            STORY.inEachDimension("an inner member at or below the cell's has a roll other than 1: roll " + roll,
                    "member D 0 " + roll + "; member D 1 0; spread 0 6 " + want + "; at D 1; spread 0 6 " + want + "",
                    "at D 2; spread 0 6 = 1");
            STORY.inEachDimension("member 0, too: roll " + roll, "member D -1 1; drop D 0; member D 1 " + roll
                    + " = 0; member D 0 0; spread 0 6 " + want + "; at D 1; spread 0 6 " + want);
            STORY.inEachDimension("a leaf's roll, one's above, and one's beside do not hinder: roll " + roll,
                    "member D -1 " + roll + "; move D 0 1; member D 1 " + roll + "; member D 2 1; spread 0 6 = 1",
                    "member D 0 " + roll + "; spread 0 6 = 1");
        }
        STORY.says("of any dimension", "member 0 0 1; member 1 0 1; member 2 -1 3; member 2 1 1; spread 0 6 = 1",
                "go 0 0 1; spread 0 6 ! state; go 1 1 1; spread 0 6 ! state; go 1 1 2; spread 0 6 = 1; go 0 0 2",
                "spread 0 6 = 1");
    }

    private static void numbersHinder() {
        String three = "3x member 0 0 1; go 1 0 0; put 0 A; go 2 0 0; put 0 B; go 3 0 0; put 0 C; put 0 5; undo;"
                + "go 0 0 0; spread 0 6 W";
        String[][] below = {{"-1", "5", "5"}, {"5", "-1", "5"}, {"5", "5", "-1"}, {"-2000000000", "0", "0"}, {"0",
                "0", "-1"}, {"2000000000", "2000000000", "-2000000000"}, {"1", "-1", "0"}};
        for (String[] row : below) {
            STORY.says("or a leaf cell is below 0", three.replace("A", row[0]).replace("B", row[1]).replace("C",
                    row[2]).replace("W", "! state"));
        }
        String[][] great = {{"2000000000", "1", "0"}, {"0", "1", "2000000000"}, {"1000000000", "1000000000", "1"},
                {"2000000000", "2000000000", "2000000000"}, {"1999999999", "1", "1"}};
        for (String[] row : great) {
            STORY.says("or all is no number", three.replace("A", row[0]).replace("B", row[1]).replace("C",
                    row[2]).replace("W", "! state"));
        }
        STORY.says("all is the greatest number", three.replace("A", "1999999998").replace("B", "1").replace("C",
                "1").replace("W", "= 3"));
        STORY.says("seen from the layer: below 0", "layer; put 0 -5; put 1 5; put 1 6; undo; spread 0 7 ! state",
                "spread 1 7 = 1; put 1 -1; spread 1 7 ! state; spread 0 7 ! state; erase 0; erase 1; spread 0 7 = 1",
                "see 1 = 7/1");
        STORY.says("a leaf cell that is below 0 beside it", "member 0 -1 1; put 0 -5; go 1 0 0; spread 0 7 = 1",
                "spread 0 -7 = 1; spread 0 7 ! state; spread 0 -7 ! state; spread 0 0 ! state");
        STORY.says("an unseen input below 0 does not hinder", "put 0 -5; member 0 0 1; spread 0 7 = 1; see 0 = 7/2");
    }

    private static void fuelHinders() {
        STORY.says("or there are more leaf cells than fuel() told (each of them is a step)", "3x member 0 0 1",
                "2x member 1 0 1; go 1 1 0; put 0 5; put 0 6; undo; go 0 0 0; fuel 5; spread 0 6 ! state; fuel 6",
                "spread 0 6 = 6; steps = 6; fuel 1; spread 0 6 ! state; go 0 1 0; spread 0 6 ! state; go 2 0 0",
                "spread 0 6 ! state",
                "go 2 2 0; spread 0 6 = 1; steps = 1; go 0 1 0; fuel 3; spread 0 6 = 3; go 0 0 0; state 0 ! state",
                "steps = 3");
    }

    private static void spreadIsRefused() {
        STORY.says("NoSuchElementException: layer, or no cell", "put 0 5; put 0 6; undo; spread 1 6 ! none",
                "spread -1 6 ! none; spread 3 6 ! none; spread MIN 6 ! none; spread MAX 6 ! none; go 1 0 0",
                "spread 0 6 ! none; go 0 1 0; spread 0 6 ! none; go 0 0 5; spread 0 6 ! none; spread 1 6 ! none");
        STORY.says("IllegalArgumentException: v is no number", "put 0 5; put 0 6; undo",
                "spread 0 2000000001 ! argument; spread 0 -2000000001 ! argument; spread 0 MAX ! argument",
                "spread 0 MIN ! argument; spread 0 2000000000 = 1");
        STORY.says("none, then argument, then state", "rule 7; put 0 -5; spread 1 MAX ! none; spread -1 MIN ! none",
                "spread 0 2000000001 ! argument; spread 0 -2000000001 ! argument; spread 0 2000000000 ! state",
                "go 0 0 1; spread 0 MAX ! none; spread 0 6 ! none");
    }
}
