/** Sentence by sentence: numbers, inputs, layers, the part that is filled; promises 10, 11, 18, 19 and 25. */
public final class BoundsInputsTest {
    private static final Story STORY = new Story("bounds of inputs");

    public static void main(String[] args) {
        numbersAreBounded();
        putsAreRefused();
        inputsOfLeafCells();
        inputsGo();
        inputsThatAreNotLookedAt();
        unseenInputsInEdits();
        layersAreThree();
        theNearestLayer();
        layersGo();
        layersMerge();
        filled();
        filledIsRefused();
        STORY.end();
    }

    private static void numbersAreBounded() {
        String sentence = "NUMBERS are whole thousandths from -2000000000 to 2000000000";
        STORY.says(sentence, "put 0 2000000000; see 0 = 2000000000/1; text 0 = 2000000; put 0 -2000000000",
                "see 0 = -2000000000/1",
                "text 0 = -2000000; put 0 1999999999; put 0 -1999999999; put 0 0; put 0 1; put 0 -1; see 0 = -1/1");
        STORY.says("IllegalArgumentException: v is no number", "put 0 5; put 0 6; undo; put 0 2000000001 ! argument",
                "put 0 -2000000001 ! argument; put 0 MAX ! argument; put 0 MIN ! argument; see 0 = 5/1; redo = 0");
    }

    private static void putsAreRefused() {
        STORY.says("NoSuchElementException: layer, or no cell", "put 0 5; put 0 6; undo; put 1 1 ! none",
                "put -1 1 ! none",
                "put 3 1 ! none; put MIN 1 ! none; put MAX 1 ! none; go 1 0 0; put 0 1 ! none; go 0 1 0",
                "put 0 1 ! none",
                "go 0 0 1; put 0 1 ! none; go 5 5 5; put 0 1 ! none");
        STORY.inEachDimension("IllegalStateException: it is no leaf cell", "member D 0 1; at D 1; put 0 5; put 0 6",
                "undo; at D 0",
                "put 0 1 ! state; put 0 2000000000 ! state; at D 1; put 0 7; see 0 = 7/1");
        STORY.says("no leaf cell if one member of three is none", "member 2 0 1; member 1 0 1; go 0 1 0",
                "put 0 1 ! state; go 0 0 1",
                "put 0 1 ! state; go 0 1 1; put 0 1; see 0 = 1/1");
        STORY.says("none, then argument, then state", "member 0 0 1; put 1 2000000001 ! none",
                "put -1 -2000000001 ! none",
                "put 0 2000000001 ! argument; put 0 -2000000001 ! argument; put 0 0 ! state; go 0 3 0",
                "put 0 MAX ! none; put 0 1 ! none");
    }

    private static void inputsOfLeafCells() {
        STORY.says("An input for the cursor's cell: for this one alone", "member 0 -1 1; member 1 -1 1",
                "member 2 -1 1; put 0 1",
                "go 1 1 1; put 0 2; go 0 1 0; put 0 3; count 5 = 3; see 0 = 3/1; go 0 0 0; see 0 = 1/1; go 1 1 1",
                "see 0 = 2/1",
                "go 1 0 0; see 0 = EMPTY/1; go 0 0 1; see 0 = EMPTY/1; go 1 1 0; see 0 = EMPTY/1; go 0 1 1",
                "see 0 = EMPTY/1");
        STORY.says("in place of that there", "put 0 1; put 0 2; count 5 = 1; see 0 = 2/1; put 0 2; count 5 = 1",
                "count 6 = 3");
        STORY.says("the corners of the sheet", "5x member 0 -1 1; 5x member 1 -1 1; 5x member 2 -1 1; go 5 5 5",
                "put 0 1; go 0 0 5",
                "put 0 2; go 5 0 0; put 0 3; go 0 5 0; put 0 4; count 5 = 4; go 0 0 0; state 0 = EMPTY; go 5 5 5",
                "value 0 = 1",
                "go 0 0 5; value 0 = 2; go 5 0 0; value 0 = 3; go 0 5 0; value 0 = 4; go 1 0 0; state 0 = EMPTY");
    }

    private static void inputsGo() {
        STORY.says("The input of the cursor's cell goes: whether there was one", "erase 0 = false; put 0 5",
                "erase 0 = true; erase 0 = false",
                "see 0 = EMPTY/1; put 0 0; erase 0 = true; count 5 = 0; put 0 -2000000000; erase 0 = true",
                "state 0 = EMPTY");
        STORY.says("of that layer alone", "2x layer; put 0 1; put 1 2; put 2 3; erase 1 = true; erase 1 = false",
                "see 2 = 3/1; see 1 = 1/1",
                "erase 2 = true; see 2 = 1/1; erase 2 = false; erase 0 = true; see 2 = EMPTY/1; count 5 = 0");
        STORY.says("of the cursor's cell alone", "member 0 -1 1; put 0 1; go 1 0 0; erase 0 = false; put 0 2",
                "erase 0 = true; go 0 0 0; see 0 = 1/1");
        STORY.inEachDimension("(a leaf cell or not)", "put 0 5; member D 0 1; erase 0 = true; erase 0 = false",
                "count 5 = 0; undo = 0; count 5 = 1");
        STORY.says("(An edit only if so.)", "put 0 5; put 0 6; undo; layer; put 0 7; put 0 8; undo; erase 1 = false",
                "count 6 = 1; count 7 = 1",
                "redo = 0; see 0 = 8/1; erase 0 = true; count 6 = 3; undo; erase 0 = true; count 7 = 0",
                "redo ! state");
        STORY.says("NoSuchElementException: layer, or no cell", "put 0 5; put 0 6; undo; erase 1 ! none",
                "erase -1 ! none; erase 3 ! none",
                "erase MIN ! none; erase MAX ! none; go 1 0 0; erase 0 ! none; go 0 1 0; erase 0 ! none; go 0 0 5",
                "erase 0 ! none; redo = 0");
    }

    private static void inputsThatAreNotLookedAt() {
        STORY.inEachDimension("one stays, and is counted, but not looked at, while its cell is no leaf cell",
                "put 0 5; member D 0 1",
                "count 5 = 1; see 0 = 0/2; filled 0 = 0.0; at D 1; see 0 = EMPTY/1; put 0 7; at D 0; see 0 = 7/2",
                "count 5 = 2",
                "filled 0 = 1.0");
        STORY.inEachDimension("it is seen again when the cell is one again", "put 0 5; member D 0 1; move D 1 -1",
                "see 0 = 5/1; filled 0 = 0.5",
                "move D 1 0; see 0 = 0/2; drop D 1 = 0; see 0 = 5/1; count 5 = 1; filled 0 = 1.0");
        STORY.says("nor by rules", "put 0 5; member 0 0 1; rule 7; see 0 = 7000/1; dropRule 0; go 1 0 0; rule x0+1",
                "see 0 = RING/2",
                "move 0 1 -1; see 0 = 1005/2");
        STORY.says("nor by spread()", "put 0 5; member 0 0 1; member 0 0 1; spread 0 4 = 2; count 5 = 3; go 1 0 0",
                "value 0 = 2; drop 0 1 = 1",
                "drop 0 2 = 1; go 0 0 0; see 0 = 5/1");
        STORY.says("nor in the layers over it", "layer; put 1 5; member 0 0 1; see 1 = 0/2; filled 1 = 0.0; lift = 1",
                "count 5 = 0");
        STORY.says("and counts with all others", "layer; put 1 5; put 0 6; member 0 0 1; count 5 = 2; merge = 1",
                "count 5 = 1; drop 0 1 = 0; see 0 = 5/1",
                "member 1 -1 1; drop 1 0 = 1; count 5 = 0");
    }

    private static void unseenInputsInEdits() {
        STORY.says("an unseen input comes again by undo()", "put 0 5; member 0 0 1; erase 0 = true; count 5 = 0",
                "undo = 0; count 5 = 1; drop 0 1",
                "see 0 = 5/1");
        STORY.says("and stays by the undoing of others", "put 0 5; member 0 0 1; go 1 0 0; put 0 6; spread 0 7 = 1",
                "undo; undo; count 5 = 1; redo; redo",
                "count 5 = 2; undo; drop 0 1 = 1; go 0 0 0; see 0 = 5/1");
    }

    private static void layersAreThree() {
        STORY.says("LAYERS are 0 (the base, always there), 1, 2, as many as there are", "count 4 = 1",
                "state 0 = EMPTY; state 1 ! none; put 1 1 ! none",
                "layer = 1; count 4 = 2; put 1 1; state 1 = NUMBER; state 2 ! none; put 2 1 ! none; erase 2 ! none",
                "spread 2 1 ! none; filled 2 ! none",
                "layer = 2; count 4 = 3; put 2 2; state 2 = NUMBER; state 3 ! none; put 3 1 ! none");
        STORY.says("IllegalStateException: there are three, with the base", "layer = 1; layer = 2; put 2 5; put 2 6",
                "undo; layer ! state; count 4 = 3",
                "lift = 1; layer = 2; layer ! state; 2x lift; layer = 1; layer = 2");
        STORY.says("Makes a layer over the others: without inputs", "put 0 5; layer = 1; see 1 = 5/1",
                "erase 1 = false; count 5 = 1; put 1 6; lift = 1",
                "layer = 1; erase 1 = false; see 1 = 5/1; put 1 7; merge = 1; layer = 1; see 1 = 7/1",
                "erase 1 = false");
    }

    private static void theNearestLayer() {
        STORY.says("the input of the nearest layer that has one, from this one downwards", "2x layer; put 1 2",
                "see 0 = EMPTY/1; see 1 = 2/1; see 2 = 2/1",
                "put 0 1; see 0 = 1/1; see 1 = 2/1; see 2 = 2/1; put 2 3; see 0 = 1/1; see 1 = 2/1; see 2 = 3/1",
                "erase 1; see 1 = 1/1; see 2 = 3/1",
                "put 2 0; see 2 = 0/1; erase 2; see 2 = 1/1");
        STORY.says("seen from a layer: other cells, too", "layer; member 0 -1 1; go 1 0 0; put 0 1; put 1 2",
                "pattern 0 1 0; rule x1*10; go 0 0 0",
                "see 0 = 10/2; see 1 = 20/2; put 1 7; see 0 = 10/2; see 1 = 7/1");
        STORY.says("otherwise, if a rule wins: below all layers", "2x layer; rule 9; see 2 = 9000/1; put 0 1",
                "see 2 = 1/1; erase 0; put 2 3",
                "see 2 = 3/1; see 1 = 9000/1; see 0 = 9000/1");
    }

    private static void layersGo() {
        STORY.says("The uppermost layer goes: how many inputs it had", "member 0 -1 1; 2x layer; put 0 1; put 1 2",
                "put 2 3; go 1 0 0; put 2 4; count 5 = 4",
                "lift = 2; count 5 = 2; count 4 = 2; state 2 ! none; see 1 = EMPTY/1; go 0 0 0; see 1 = 2/1",
                "lift = 1; count 5 = 1; see 0 = 1/1",
                "count 4 = 1; lift ! state; merge ! state");
        STORY.says("how many: none", "layer; put 0 1; lift = 0; layer; merge = 0; count 5 = 1; see 0 = 1/1");
        STORY.says("IllegalStateException: there is the base alone", "put 0 5; put 0 6; undo; lift ! state",
                "merge ! state; redo = 0; layer; lift = 0",
                "lift ! state; merge ! state; see 0 = 6/1");
        STORY.says("how many: all of a full layer", "5x member 0 -1 1; 5x member 1 -1 1; member 0 0 1 ! state",
                "member 1 0 1 ! state",
                "layer; spread 1 0 = 1; go 5 5 0; spread 1 0 = 1; lift = 2");
    }

    private static void layersMerge() {
        STORY.says("its inputs come into the one below it, in place of those there", "member 0 -1 1; member 0 -1 1",
                "layer; put 0 1; put 1 2; go 1 0 0",
                "put 1 0; go 2 0 0; put 0 5; merge = 2; count 5 = 3; see 0 = 5/1; go 1 0 0; see 0 = 0/1; go 0 0 0",
                "see 0 = 2/1; count 4 = 1");
        STORY.says("into the one below it alone", "2x layer; put 0 1; put 2 3; merge = 1; count 5 = 2; see 0 = 1/1",
                "see 1 = 3/1; merge = 1; see 0 = 3/1",
                "count 5 = 1; merge ! state");
        STORY.says("if it is to be merged", "layer; put 1 2; lift = 1; see 0 = EMPTY/1; layer; put 1 3; merge = 1",
                "see 0 = 3/1");
    }

    private static void filled() {
        STORY.says("for which a layer or one below has an input: how many, divided by how many there are",
                "member 0 -1 1; member 0 -1 1; 2x layer",
                "filled 0 = 0.0; filled 2 = 0.0; put 0 0; filled 0 = 0.33333334; filled 1 = 0.33333334",
                "filled 2 = 0.33333334; put 1 1; filled 1 = 0.33333334",
                "go 1 0 0; put 1 1; filled 0 = 0.33333334; filled 1 = 0.6666667; filled 2 = 0.6666667; go 2 0 0",
                "put 2 1; filled 0 = 0.33333334",
                "filled 1 = 0.6666667; filled 2 = 1.0; put 0 1; filled 0 = 0.6666667; filled 1 = 1.0");
        STORY.says("of the leaf cells alone", "member 0 0 1; member 1 0 1; member 2 0 1; filled 0 = 0.0; go 1 1 1",
                "put 0 5; filled 0 = 1.0; member 2 0 1",
                "filled 0 = 0.5; member 0 0 1; filled 0 = 0.25; member 1 0 1; filled 0 = 0.125");
        STORY.says("as floats", "4x member 0 -1 1; member 1 -1 1; 2x member 2 -1 1; put 0 1; filled 0 = 0.033333335",
                "go 1 1 1; put 0 1; filled 0 = 0.06666667");
        STORY.says("the most leaf cells", "5x member 0 -1 1; 5x member 1 -1 1; 5x member 2 -1 1; go 5 5 5; put 0 1",
                "filled 0 = 0.0046296297");
        STORY.says("rules and the cursor are none of it", "rule 7; filled 0 = 0.0; put 0 1; go 5 5 5",
                "filled 0 = 1.0");
        STORY.inEachDimension("0 if there are no leaf cells", "put 0 5; drop D 0 = 1; filled 0 = 0.0; layer",
                "filled 1 = 0.0; member D -1 1; filled 1 = 0.0");
    }

    private static void filledIsRefused() {
        STORY.says("NoSuchElementException: layer", "put 0 5; filled 1 ! none; filled -1 ! none; filled 3 ! none",
                "filled MIN ! none; filled MAX ! none",
                "layer; filled 1 = 1.0; filled 2 ! none; layer; filled 2 = 1.0; filled 3 ! none; lift",
                "filled 2 ! none; drop 0 0; filled 2 ! none");
    }
}
