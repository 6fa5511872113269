/** Sentence by sentence: edits, what forgets them, counts; promises 21 to 23. */
public final class BoundsEditsTest {
    private static final Story STORY = new Story("bounds of edits");

    public static void main(String[] args) {
        edits();
        theLatestTwelve();
        undone();
        redone();
        changesForget();
        othersForgetNothing();
        counts();
        STORY.end();
    }

    private static void edits() {
        STORY.says("EDITS are put(), erase() and spread()", "put 0 5; count 6 = 1; erase 0 = true; count 6 = 2",
                "spread 0 7 = 1; count 6 = 3; undo = 2",
                "state 0 = EMPTY; undo = 1; see 0 = 5/1; undo = 0; state 0 = EMPTY; count 5 = 0; redo = 2",
                "see 0 = 5/1; redo = 1; state 0 = EMPTY",
                "redo = 0; see 0 = 7/1; count 6 = 3; count 7 = 0");
        STORY.says("also when all stays as it was", "put 0 5; put 0 5; count 6 = 2; spread 0 5 = 1; count 6 = 3",
                "undo = 2; see 0 = 5/1; undo = 1",
                "see 0 = 5/1; undo = 0; state 0 = EMPTY");
        STORY.says("also when all stays as it was: no redo then", "put 0 5; put 0 6; undo = 1; put 0 5; count 7 = 0",
                "redo ! state; undo = 1; spread 0 5 = 1",
                "redo ! state; count 6 = 2");
        STORY.says("an erase() that answers false is none", "put 0 5; erase 0 = true; undo; undo; erase 0 = false",
                "count 6 = 0; count 7 = 2; redo = 1");
        STORY.says("a spread() is one edit, of all its cells", "2x member 0 0 1; go 1 0 0; put 0 1; go 0 0 0",
                "spread 0 9 = 2; count 6 = 2; count 5 = 2; undo = 1",
                "count 5 = 1; see 0 = 1/3; undo = 0; count 5 = 0; redo = 1; redo = 0; count 5 = 2; see 0 = 9/3");
        STORY.says("of each layer", "2x layer; put 0 1; put 2 3; put 1 2; spread 2 4; undo = 3; see 2 = 3/1",
                "undo = 2; see 1 = 1/1; undo = 1; see 2 = 1/1",
                "redo = 2; see 2 = 3/1; see 1 = 1/1; undo = 1; undo = 0; count 5 = 0; 4x redo = 0; see 0 = 1/1",
                "see 1 = 2/1; see 2 = 4/1");
    }

    private static void theLatestTwelve() {
        STORY.says("the latest twelve can be undone: eleven", "put 0 100; 10x put 0 7; count 6 = 11; 10x undo = 1",
                "see 0 = 100/1; undo = 0; state 0 = EMPTY; undo ! state");
        STORY.says("the latest twelve can be undone: twelve", "put 0 100; 11x put 0 7; count 6 = 12; 11x undo = 1",
                "see 0 = 100/1; undo = 0; state 0 = EMPTY; undo ! state",
                "count 7 = 12; 12x redo = 0; see 0 = 7/1; redo ! state; count 6 = 12");
        STORY.says("the latest twelve can be undone: thirteen", "put 0 100; put 0 200; 11x put 0 7; count 6 = 12",
                "undo = 11; 10x undo = 1; see 0 = 200/1; undo = 0",
                "see 0 = 100/1; undo ! state; count 7 = 12; redo = 11; see 0 = 200/1");
        STORY.says("the latest twelve can be undone: many", "13x put 0 1; 13x put 0 2; 13x put 0 3; put 0 4",
                "count 6 = 12; undo = 11; see 0 = 3/1; 11x undo = 0; see 0 = 3/1",
                "undo ! state; 12x redo = 0; see 0 = 4/1");
        STORY.says("at most 512 calls after it has been made", "460x put 0 1; 6x put 0 2; 6x put 0 3; count 6 = 12",
                "6x undo = 6; see 0 = 2/1; 6x undo = 0; see 0 = 1/1; undo ! state; 12x redo = 0; see 0 = 3/1");
        STORY.says("the latest twelve, of every kind", "put 0 1; put 0 2; erase 0; spread 0 3; 3x put 0 4; erase 0",
                "spread 0 5; put 0 6; erase 0; put 0 7; erase 0; put 0 8",
                "count 6 = 12; 12x undo = 0; see 0 = 2/1; undo ! state; redo = 11; state 0 = EMPTY; redo = 10",
                "see 0 = 3/1; 10x redo = 0; see 0 = 8/1");
        STORY.says("undone ones have room again", "12x put 0 1; 5x undo = 7; put 0 2; count 6 = 8; count 7 = 0",
                "4x put 0 3; count 6 = 12; put 0 4; count 6 = 12; undo = 11; see 0 = 3/1",
                "4x undo = 7; see 0 = 2/1; undo = 6; see 0 = 1/1");
        STORY.says("undone and redone ones are the same", "13x put 0 1; put 0 2; 7x undo; 7x redo = 0; count 6 = 12",
                "put 0 3; count 6 = 12; undo = 11; see 0 = 2/1; undo = 10; see 0 = 1/1");
    }

    private static void undone() {
        STORY.says("The latest edit that is not undone is undone: how many more can be", "put 0 1; put 0 2; put 0 3",
                "undo = 2; see 0 = 2/1; undo = 1; see 0 = 1/1; redo = 1",
                "see 0 = 2/1; undo = 1; see 0 = 1/1; undo = 0; state 0 = EMPTY");
        STORY.says("IllegalStateException: there is none", "undo ! state; put 0 5; undo = 0; undo ! state; redo = 0",
                "undo = 0; undo ! state; layer; undo ! state");
        STORY.says("wherever the cursor is", "put 0 5; put 0 6; go 5 5 5; undo = 1; redo = 0; undo = 1; go 0 0 0",
                "see 0 = 5/1");
        STORY.says("an input in place of another comes again", "layer; put 1 1; put 1 2; erase 1; put 0 3; undo",
                "undo; see 1 = 2/1; undo; see 1 = 1/1; undo; state 1 = EMPTY");
    }

    private static void redone() {
        STORY.says("The latest edit that was undone is made again: how many more can be", "put 0 1; put 0 2; put 0 3",
                "undo; undo; undo; count 7 = 3; redo = 2; see 0 = 1/1; redo = 1",
                "see 0 = 2/1; redo = 0; see 0 = 3/1; redo ! state");
        STORY.says("if no edit came behind that: put()", "put 0 1; put 0 2; undo; put 0 3; redo ! state; count 7 = 0",
                "undo = 1; see 0 = 1/1; redo = 0; see 0 = 3/1");
        STORY.says("if no edit came behind that: erase()", "put 0 1; put 0 2; undo; erase 0 = true; redo ! state",
                "undo = 1; see 0 = 1/1; redo = 0; state 0 = EMPTY");
        STORY.says("if no edit came behind that: spread()", "put 0 1; put 0 2; undo; spread 0 3 = 1; redo ! state",
                "undo = 1; see 0 = 1/1; redo = 0; see 0 = 3/1");
        STORY.says("IllegalStateException: there is none", "redo ! state; put 0 5; redo ! state; undo; redo = 0",
                "redo ! state; undo; layer; redo ! state");
    }

    private static void changesForget() {
        String[] changes = {"member 0 -1 1 = 2", "member 2 0 4 = 1", "move 0 1 0 = 1", "move 0 1 -1 = 0",
                "move 1 0 -1 = 0", "drop 0 1 = 0", "drop 1 0 = 1", "rule 7 = 0", "rule x5 = 0",
            "dropRule 0 = 0", "layer = 2", "lift = 0", "merge = 0"};
        for (String change : changes) {
            STORY.says("member(), move(), drop(), rule() that answers 0, dropRule(), layer(), dropLayer() forget all",
                    "member 0 -1 1; layer; pattern 0 1 0; rule 7; put 0 1",
                    "put 0 2; put 0 3; undo; count 6 = 2; count 7 = 1", change, "count 6 = 0; count 7 = 0",
                    "undo ! state; redo ! state");
        }
        STORY.says("what was forgotten stays as it is", "put 0 1; put 0 2; undo; layer; see 0 = 1/1; put 0 3",
                "undo = 0; undo ! state; see 0 = 1/1");
        STORY.says("twelve again behind it", "12x put 0 1; layer; 13x put 0 2; count 6 = 12; 12x undo = 0",
                "see 0 = 2/1; undo ! state");
    }

    private static void othersForgetNothing() {
        String[] calls = {"rule 1+ = 3", "rule = 1", "type x = 1", "code 97 = false", "pattern 0 1 0",
                "pattern 0 0 9", "at 0 5 = 0", "fuel 9 = 300", "state 1 = NUMBER", "value 0 = 2", "shown 0 0 = 48",
            "steps = 0", "winner = -1", "count 5 = 1", "about 0 0 3 = 0", "filled 1 = 1.0", "erase 1 = false",
            "undo = 1", "redo = 0"};
        for (String call : calls) {
            boolean moves = call.startsWith("undo") || call.startsWith("redo");
            String want = !moves ? "count 6 = 2; count 7 = 1" : call.startsWith("undo") ? "count 6 = 1;"
                    + "count 7 = 2" : "count 6 = 3; count 7 = 0";
            STORY.says("no other call forgets them", "layer; put 0 1; put 0 2; put 0 3; undo", call, want);
        }
        STORY.says("Such a call changes nothing", "layer; put 0 1; put 0 2; put 0 3; undo; member 0 0 5 ! argument",
                "member 0 1 1 ! none; move 0 0 0 ! argument; drop 0 1 ! none; dropRule 0 ! none",
                "put 0 MAX ! argument; put 2 1 ! none; erase 2 ! none; spread 0 MIN ! argument; spread 2 1 ! none",
                "count 9 ! argument; count 6 = 2; count 7 = 1; layer; lift; lift",
                "put 0 1; put 0 2; undo; lift ! state; count 6 = 1; count 7 = 1");
    }

    private static void counts() {
        STORY.says("0 members of X, 1 of Y, 2 of Z", "count 0 = 1; count 1 = 1; count 2 = 1; member 0 0 1",
                "member 1 0 1; 2x member 2 0 1; member 1 0 1; member 2 0 1; count 0 = 2; count 1 = 3; count 2 = 4",
                "2x member 2 0 1; count 2 = 6; drop 0 1; drop 0 0; count 0 = 0; count 1 = 3; move 2 1 -1",
                "count 2 = 6");
        STORY.says("3 rules, 4 layers", "count 3 = 0; rule 1; rule 1+; count 3 = 1; 7x rule 2; count 3 = 8",
                "dropRule 3; count 3 = 7; count 4 = 1; layer; count 4 = 2; layer; count 4 = 3; lift; count 4 = 2");
        STORY.says("5 inputs in all layers", "count 5 = 0; 2x layer; put 0 1; count 5 = 1; put 1 1; put 2 1",
                "count 5 = 3; put 2 2; count 5 = 3; erase 0; count 5 = 2; undo; count 5 = 3; lift; count 5 = 2",
                "merge; count 5 = 1");
        STORY.says("6 edits that can be undone, 7 that can be redone", "count 6 = 0; count 7 = 0; 14x put 0 1",
                "count 6 = 12; count 7 = 0; 4x undo; count 6 = 8; count 7 = 4; redo; count 6 = 9; count 7 = 3",
                "9x undo; count 6 = 0; count 7 = 12");
        STORY.says("8 characters in the pad", "count 8 = 0; type 1+ = 2; count 8 = 2; code 32 = false; count 8 = 2",
                "type 1111111111111111111111 = 22; count 8 = 24; type 1 = 0; count 8 = 24; rule = 8; count 8 = 0");
        STORY.says("IllegalArgumentException: none of these", "type 1+; put 0 5; put 0 6; undo; count -1 ! argument",
                "count 9 ! argument; count MIN ! argument; count MAX ! argument; count 0 = 1; count 8 = 2");
    }
}
