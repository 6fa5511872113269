/** Sentence by sentence: dimensions, members, the cursor; promises 1 to 5 and 24. */
public final class BoundsMembersTest {
    private static final Story STORY = new Story("bounds of members");

    public static void main(String[] args) {
        dimensionsAreThree();
        aNewObject();
        membersAreMade();
        membersAreRefused();
        membersMove();
        movesAreRefused();
        childrenAndLeaves();
        membersGo();
        dropsAreRefused();
        rulesHinderDrops();
        theNextRulesPattern();
        theCursor();
        cells();
        aboutMembers();
        STORY.end();
    }

    private static void dimensionsAreThree() {
        String sentence = "DIMENSIONS are 0, 1, 2 (X, Y, Z).";
        for (String d : new String[] {"-1", "3", "MIN", "MAX"}) {
            STORY.says(sentence, "put 0 5; member D 0 1 ! none; move D 0 -1 ! none; drop D 0 ! none; at D 0 ! none"
                    .replace("D", d), "pattern D 0 0 ! none; pattern D 1 0 ! none; about D 0 0 ! none".replace("D",
                    d));
        }
        STORY.inEachDimension(sentence, "at D 1 = 0; at D 0 = 1; pattern D 1 0; about D 0 0 = -1; member D 0 1 = 1",
                "count D = 2; move D 1 -1 = 0; drop D 1 = 0; count D = 1; count 0 = 1; count 1 = 1; count 2 = 1");
    }

    private static void aNewObject() {
        String sentence = "Member 0 in each dimension, a root with roll 1; no rules; the base alone, without inputs.";
        STORY.inEachDimension(sentence, "about D 0 0 = -1; about D 0 1 = 1; about D 0 2 = 0; about D 0 3 = 0",
                "count D = 1",
                "about D 1 0 ! none; about D 5 0 ! none");
        STORY.says(sentence, "count 3 = 0; winner = -1; dropRule 0 ! none");
        STORY.says(sentence, "count 4 = 1; state 0 = EMPTY; state 1 ! none; lift ! state; merge ! state");
        STORY.says(sentence, "count 5 = 0; erase 0 = false; filled 0 = 0.0; see 0 = EMPTY/1; text 0 = empty");
        STORY.says(sentence, "count 6 = 0; count 7 = 0; count 8 = 0; undo ! state; redo ! state");
        STORY.says("300 at first; 0 before; 0, 0, 0 at first", "steps = 0; fuel 300 = 300; go 1 1 1 = 0 0 0");
    }

    private static void membersAreMade() {
        STORY.inEachDimension("A new member below a parent (-1: a root)", "member D -1 2 = 1; about D 1 0 = -1",
                "about D 1 1 = 2; about D 1 2 = 0; member D 1 3 = 2; about D 2 0 = 1; about D 2 1 = 3",
                "about D 2 2 = 1");
        STORY.says("the least number that is not there", "member 0 0 1 = 1; member 0 0 1 = 2; member 0 0 1 = 3",
                "drop 0 2 = 0; drop 0 1 = 0; member 0 3 1 = 1; member 0 -1 1 = 2; member 0 -1 1 = 4");
        STORY.says("the least number that is not there (0)", "member 1 -1 1 = 1; drop 1 0 = 0; member 1 1 4 = 0",
                "about 1 0 0 = 1; about 1 0 1 = 4; about 1 0 2 = 1; about 1 0 3 = 0; about 1 1 3 = -1");
        STORY.says("the least number that is not there (5)", "5x member 2 -1 1 = 5; drop 2 5 = 0; member 2 0 1 = 5");
        STORY.says("a roll 0 .. 4", "member 0 0 0 = 1; about 0 1 1 = 0; member 0 0 4 = 2; about 0 2 1 = 4");
        STORY.says("a member without what it had", "member 0 -1 3 = 1; member 0 1 1 = 2; drop 0 2 = 0; drop 0 1 = 0",
                "member 0 0 0 = 1; about 0 1 0 = 0; about 0 1 1 = 0; about 0 1 2 = 1");
    }

    private static void membersAreRefused() {
        STORY.says("NoSuchElementException: dimension or parent", "put 0 5; member 0 -2 1 ! none",
                "member 0 1 1 ! none",
                "member 0 5 1 ! none; member 0 6 1 ! none; member 0 MIN 1 ! none; member 0 MAX 1 ! none");
        STORY.says("a parent of another dimension", "member 0 -1 1 = 1; member 1 1 1 ! none; member 2 1 1 ! none");
        STORY.says("IllegalArgumentException: roll is not 0 .. 4", "put 0 5; member 0 0 -1 ! argument",
                "member 0 0 5 ! argument; member 0 -1 MIN ! argument; member 0 -1 MAX ! argument; member 0 0 0 = 1");
        STORY.inEachDimension("IllegalStateException: there are six", "4x member D 0 1 = 4; count D = 5",
                "member D -1 1 = 5; count D = 6; member D -1 1 ! state; member D 5 4 ! state; count D = 6",
                "drop D 3 = 0; member D -1 1 = 3; member D 0 1 ! state");
        STORY.says("none, then argument, then state", "5x member 0 0 1 = 5; member 3 0 5 ! none; member 0 6 5 ! none",
                "member 0 6 1 ! none; member 0 0 5 ! argument; member 0 0 -1 ! argument; member 0 0 1 ! state");
        STORY.says("none before argument", "member 0 1 5 ! none; member 3 0 -1 ! none; member -1 -2 5 ! none");
    }

    private static void membersMove() {
        STORY.inEachDimension("A member comes below another parent (-1: it is a root): its depth then",
                "2x member D 0 1; member D -1 1 = 3; move D 1 2 = 2; about D 1 0 = 2; about D 1 2 = 2",
                "move D 1 3 = 1; about D 1 0 = 3; move D 1 -1 = 0; about D 1 0 = -1; about D 1 2 = 0",
                "move D 1 -1 = 0",
                "move D 2 0 = 1; about D 2 0 = 0; about D 2 1 = 1");
        STORY.says("else 1 more than its parent's (0 .. 5)", "member 0 0 1; member 0 1 1; member 0 2 1; member 0 3 1",
                "member 0 4 1 = 5; about 0 0 2 = 0; about 0 1 2 = 1; about 0 4 2 = 4; about 0 5 2 = 5",
                "move 0 3 0 = 1; about 0 4 2 = 2; about 0 5 2 = 3; move 0 3 -1 = 0; about 0 5 2 = 2; move 0 0 5 = 3",
                "about 0 2 2 = 5; about 0 3 2 = 0");
        STORY.says("its roll stays", "member 1 -1 3 = 1; move 1 1 0 = 1; about 1 1 1 = 3");
    }

    private static void movesAreRefused() {
        STORY.says("NoSuchElementException: dimension, member or parent", "member 0 0 1; put 0 5 ! state",
                "move 0 2 0 ! none",
                "move 0 -1 0 ! none; move 0 6 0 ! none; move 0 MIN 0 ! none; move 0 MAX 0 ! none; move 0 0 2 ! none",
                "move 0 1 -2 ! none; move 0 1 6 ! none; move 0 1 MIN ! none; move 0 1 MAX ! none; move 1 1 0 ! none");
        STORY.says("IllegalArgumentException: the parent is it, or below it", "member 0 0 1; member 0 1 1",
                "member 0 2 1",
                "member 0 3 1; member 0 4 1; go 5 0 0; put 0 5; move 0 0 0 ! argument; move 0 0 1 ! argument",
                "move 0 0 5 ! argument; move 0 4 5 ! argument; move 0 5 5 ! argument; move 0 5 4 = 5",
                "move 0 5 0 = 1");
        STORY.says("none before argument", "move 0 1 1 ! none; move 3 0 0 ! none; move 0 -1 -1 ! none",
                "move 0 5 5 ! none");
        STORY.says("one beside it, or above it, is none", "member 0 0 1; member 0 0 1; move 0 1 2 = 2",
                "move 0 1 0 = 1");
    }

    private static void childrenAndLeaves() {
        STORY.says("The CHILDREN of a member are those whose parent it is, by ascending numbers",
                "member 0 -1 3; member 0 1 1; member 0 1 1; go 3 0 0; put 0 7; go 0 0 0; put 0 5; go 2 0 0; put 0 8",
                "go 1 0 0; see 0 = 8/2; move 0 0 1 = 1; see 0 = 5/2; move 0 0 -1 = 0; move 0 2 -1 = 0; see 0 = 7/2");
        STORY.says("without any it is a LEAF", "about 0 0 3 = 0; member 0 0 1; about 0 0 3 = -1; about 0 1 3 = 0",
                "move 0 1 -1; about 0 0 3 = 0; about 0 1 3 = 1; move 0 0 1; about 0 0 3 = 0; about 0 1 3 = -1",
                "drop 0 0 = 0; about 0 1 3 = 0");
        STORY.inEachDimension("LEAVES are in the order of a walk", "member D -1 1; member D 1 1; member D 0 1",
                "member D 0 1",
                "member D 3 1; about D 0 3 = -1; about D 3 3 = -1; about D 1 3 = -1; about D 5 3 = 0",
                "about D 4 3 = 1",
                "about D 2 3 = 2; move D 0 2 = 2; about D 5 3 = 0; move D 4 -1; about D 4 3 = 1; move D 5 4",
                "about D 3 3 = 0; about D 5 3 = 1; about D 4 3 = -1");
        STORY.says("LEAVES from the roots by ascending numbers", "5x member 2 -1 1; about 2 0 3 = 0; about 2 5 3 = 5",
                "drop 2 2 = 0; about 2 3 3 = 2; about 2 5 3 = 4; drop 2 0 = 0; about 2 1 3 = 0; member 2 -1 1 = 0",
                "about 2 0 3 = 0; about 2 1 3 = 1");
    }

    private static void membersGo() {
        STORY.inEachDimension("A leaf goes, with all inputs of cells with it: how many inputs", "member D -1 1",
                "2x layer; at D 1; put 0 1; put 1 2; put 2 3; at D 0; put 1 4; put 2 5; count 5 = 5; drop D 1 = 3",
                "count 5 = 2; about D 1 0 ! none; count D = 1; value 2 = 5; value 1 = 4; state 0 = EMPTY",
                "member D -1 1 = 1; drop D 1 = 0; drop D 0 = 2; count 5 = 0; count D = 0");
        STORY.says("all inputs, seen or not", "put 0 1; member 1 -1 1; go 0 1 0; put 0 2; member 0 0 1; drop 1 1 = 1",
                "count 5 = 1; member 1 -1 1; drop 1 0 = 1; count 5 = 0");
        STORY.says("its inputs do not come again", "member 0 -1 1; go 1 0 0; layer; put 0 5; put 1 0; drop 0 1 = 2",
                "member 0 -1 1 = 1; see 1 = EMPTY/1; see 0 = EMPTY/1; erase 0 = false; filled 1 = 0.0");
        STORY.says("A leaf goes: the last of a dimension, too", "put 0 5; drop 1 0 = 1; count 1 = 0",
                "about 1 0 3 ! none",
                "drop 1 0 ! none; filled 0 = 0.0; member 1 0 1 ! none; member 1 -1 1 = 0; see 0 = EMPTY/1");
    }

    private static void dropsAreRefused() {
        STORY.says("NoSuchElementException: dimension or member", "put 0 5; drop 0 1 ! none; drop 0 -1 ! none",
                "drop 0 5 ! none; drop 0 6 ! none; drop 0 MIN ! none; drop 0 MAX ! none; member 0 -1 1",
                "drop 1 1 ! none");
        STORY.inEachDimension("IllegalStateException: it has children", "member D 0 1; layer; at D 1; put 0 5",
                "put 0 6; undo",
                "drop D 0 ! state; member D 1 1; drop D 1 ! state; drop D 0 ! state; drop D 2 = 0; drop D 1 = 1",
                "drop D 0 = 0");
        STORY.inEachDimension("patterns stay behind a drop that is refused", "member D 0 1; pattern D 1 0",
                "drop D 0 ! state; rule 7; winner = 0; at D 1; winner = -1; pattern D 2 0; drop D 0 ! state; rule 8",
                "winner = 1; at D 0; winner = 0; pattern D 1 1; rule 9; pattern D 1 1; drop D 1 ! state; rule 6 = 0",
                "winner = 0; at D 1; winner = 3");
        STORY.says("edits stay behind a drop that is refused", "member 0 -1 1; member 0 1 1; put 0 1; put 0 2; undo",
                "drop 0 1 ! state; drop 0 3 ! none; count 6 = 1; count 7 = 1; redo = 0");
    }

    private static void rulesHinderDrops() {
        STORY.inEachDimension("a rule has it in a pattern that is not 0", "member D -1 1; pattern D 1 1; rule 7 = 0",
                "drop D 1 ! state; drop D 0 = 0; dropRule 0 = 0; drop D 1 = 0");
        STORY.inEachDimension("a rule has it in a pattern that is not 0", "member D -1 1; pattern D 2 1; rule 7 = 0",
                "drop D 1 ! state; drop D 0 = 0; dropRule 0 = 0; drop D 1 = 0");
        STORY.inEachDimension("a pattern that is 0 does not hinder", "member D -1 1; pattern D 0 1; rule 7 = 0",
                "drop D 1 = 0");
        STORY.inEachDimension("a pattern of leaves has its member alone", "member D -1 1; member D 1 1",
                "pattern D 2 1",
                "rule 7 = 0; drop D 2 = 0; drop D 1 ! state; drop D 0 = 0");
        STORY.inEachDimension("or as a digit of that dimension in a reference", "member D -1 1; rule 1+L1 = 0",
                "drop D 1 ! state; drop D 0 = 0; dropRule 0 = 0; drop D 1 = 0");
        STORY.inEachDimension("a digit behind other shifts, ahead of others, and ahead of $", "2x member D -1 1",
                "rule 0?1:(L0L^L1L2L$) = 0; drop D 0 ! state; drop D 1 ! state; drop D 2 ! state; member D -1 1 = 3",
                "drop D 3 = 0");
        STORY.inEachDimension("a rule has it: not one that is gone", "member D -1 1; rule L1 = 0; rule 1+ = 3",
                "dropRule 0 = 0; rule 7 = 0; drop D 1 = 0; rule 2*L2L1 = 0; dropRule 0 = 1; dropRule 0 = 0",
                "rule 3*4 = 0; member D -1 1 = 1; drop D 1 = 0",
                "rule L1; dropRule 0 = 1; rule L1) = 3; rule 1 = 0; member D -1 1 = 1; drop D 1 ! state",
                "dropRule 0 = 1; drop D 1 = 0");
        STORY.inEachDimension("any of the rules", "member D -1 1; 7x rule 7; rule L1 = 0; drop D 1 ! state",
                "6x dropRule 0 = 2; drop D 1 ! state; dropRule 1 = 1; drop D 1 = 0");
        STORY.says("of that dimension", "member 0 -1 1; member 1 -1 1; member 2 -1 1; rule y1 = 0; drop 0 1 = 0",
                "drop 2 1 = 0; drop 1 1 ! state; pattern 0 1 0; rule 1 = 0; drop 1 0 = 0; drop 2 0 = 0",
                "drop 0 0 ! state");
        STORY.says("a digit of a number is none", "member 0 -1 1; rule 1+11*1 = 0; drop 0 1 = 0; drop 0 0 = 0");
        STORY.says("the pad's text is no rule", "member 0 -1 1; type x1 = 2; drop 0 1 = 0; count 8 = 2; rule = 0",
                "see 0 = EMPTY/1; member 0 -1 1 = 1; drop 0 1 ! state");
        STORY.says("a digit of a member that is not there, till it is", "rule x1+5 = 0; see 0 = 5000/1",
                "member 0 -1 1 = 1",
                "drop 0 1 ! state; drop 0 0 = 0");
    }

    private static void theNextRulesPattern() {
        String sentence = "and as a pattern for the next rule (which is 0 then)";
        for (String kind : new String[] {"1", "2"}) {
            STORY.inEachDimension(sentence,
                    "member D -1 1; pattern D K 1; drop D 1 = 0; rule 7 = 0; winner = 0; see 0 = 7000/1"
                    .replace("K", kind));
        }
        STORY.says(sentence, "member 0 -1 1; member 1 -1 1; pattern 0 1 1; pattern 1 1 1; drop 0 1 = 0; rule 7 = 0",
                "winner = -1; go 0 1 0; winner = 0; pattern 1 0 0; pattern 1 1 1; rule 8; winner = 1");
        STORY.says("another member as a pattern stays", "member 0 -1 1; member 0 -1 1; pattern 0 1 1; drop 0 2 = 0",
                "rule 7",
                "winner = -1; go 1 0 0; winner = 0");
        STORY.says("a pattern of another dimension stays", "member 0 -1 1; member 1 -1 1; pattern 0 1 1",
                "drop 1 1 = 0",
                "rule 7; winner = -1; go 1 0 0; winner = 0");
        STORY.says("it is 0 then, also when the member comes again", "member 0 -1 1; pattern 0 1 1; drop 0 1",
                "member 0 -1 1",
                "rule 7; winner = 0; go 1 0 0; winner = 0");
    }

    private static void theCursor() {
        STORY.inEachDimension("The cursor's member in a dimension becomes a number, there or not: what it was",
                "at D 5 = 0; at D 3 = 5; at D 3 = 3; at D 0 = 3; state 0 = EMPTY");
        STORY.says("each dimension by itself", "go 3 4 5 = 0 0 0; go 0 1 2 = 3 4 5; go 0 0 0 = 0 1 2");
        STORY.inEachDimension("IllegalArgumentException: member is not 0 .. 5", "at D 4; at D -1 ! argument",
                "at D 6 ! argument; at D MIN ! argument; at D MAX ! argument; at D 5 = 4; at D 0 = 5");
        STORY.says("none before argument", "at 3 6 ! none; at -1 -1 ! none; at MAX MAX ! none");
        STORY.inEachDimension("The cursor stays as it is by whatever comes or goes", "member D -1 1; at D 1; put 0 5",
                "drop D 1 = 1; state 0 ! none; at D 1 = 1; member D 0 1 = 1; see 0 = EMPTY/1; move D 1 -1",
                "member D 1 1",
                "drop D 2; layer; lift; rule 7; dropRule 0; at D 1 = 1");
    }

    private static void cells() {
        STORY.inEachDimension("it tells a cell if all of them are there", "layer; put 0 5; put 0 6; undo; at D 1",
                "put 0 1 ! none; erase 0 ! none; state 0 ! none; value 0 ! none; shown 0 0 ! none; winner ! none",
                "spread 0 1 ! none; filled 0 = 1.0; member D -1 1 = 1; state 0 = EMPTY; winner = -1; put 0 1");
        STORY.inEachDimension("a LEAF CELL has leaves alone", "member D 0 1; put 0 5 ! state; at D 1; put 0 5",
                "see 0 = 5/1",
                "at D 0; see 0 = 5/2; move D 1 -1; put 0 6; see 0 = 6/1");
        STORY.says("a member that is there of each dimension", "member 0 -1 1; go 1 1 0; state 0 ! none; go 0 1 0",
                "state 0 ! none",
                "go 1 0 1; state 0 ! none; go 1 0 0; state 0 = EMPTY; go 5 5 5; state 0 ! none; winner ! none");
    }

    private static void aboutMembers() {
        STORY.inEachDimension("0 its parent (-1 none), 1 its roll, 2 its depth, 3 its place among the leaves",
                "member D 0 4; member D -1 2; about D 0 0 = -1; about D 0 1 = 1; about D 0 2 = 0; about D 0 3 = -1",
                "about D 1 0 = 0; about D 1 1 = 4; about D 1 2 = 1; about D 1 3 = 0; about D 2 0 = -1",
                "about D 2 1 = 2",
                "about D 2 2 = 0; about D 2 3 = 1");
        STORY.says("NoSuchElementException: dimension or member", "about 0 1 0 ! none; about 0 -1 0 ! none",
                "about 0 5 1 ! none",
                "about 0 6 2 ! none; about 0 MIN 3 ! none; about 0 MAX 3 ! none; member 0 -1 1; about 1 1 0 ! none",
                "drop 0 1; about 0 1 0 ! none");
        STORY.says("IllegalArgumentException: none of these", "about 0 0 -1 ! argument; about 0 0 4 ! argument",
                "about 0 0 MIN ! argument; about 0 0 MAX ! argument");
        STORY.says("none before argument", "about 0 1 4 ! none; about 3 0 -1 ! none; about 0 6 4 ! none");
    }
}
