/** Sentence by sentence: what a cell is, steps, depth and texts; promises 12 to 16. */
public final class BoundsCellsTest {
    private static final Story STORY = new Story("bounds of cells");

    public static void main(String[] args) {
        inputThenRuleThenRoll();
        rolls();
        theFirstInnerDimension();
        sumsInTheEnd();
        means();
        empty();
        shiftsToNoCell();
        sumsOverChildren();
        neighbours();
        parentsAndDigits();
        products();
        quotients();
        sumsAndDifferences();
        fromTheLeft();
        divisions();
        theStrongerOne();
        bothPartsAreWorkedOut();
        conditions();
        rings();
        stepsAreCounted();
        theLatestSteps();
        fuel();
        theMostFuel();
        twentyDeep();
        partsThatWait();
        rollsTwentyDeep();
        looksAreRefused();
        values();
        texts();
        STORY.end();
    }

    /** x0 has input a, x1 input b (- for none); the rule is for x2 alone. */
    private static void of(String sentence, String a, String b, String formula, String want) {
        String puts = "2x member 0 -1 1;" + (a.equals("-") ? "" : "put 0 " + a + ";") + "go 1 0 0;"
                + (b.equals("-") ? "" : "put 0 " + b + ";");
        STORY.says(sentence, puts + "pattern 0 1 2; rule " + formula + " = 0; go 2 0 0; see 0 = " + want);
    }

    /** The rule is for the only cell there is. */
    private static void is(String sentence, String formula, String want) {
        STORY.says(sentence, "rule " + formula + " = 0; see 0 = " + want);
    }

    private static void inputThenRuleThenRoll() {
        STORY.says("for a leaf cell, the input; otherwise, if a rule wins, what its formula gives", "rule 7",
                "see 0 = 7000/1; put 0 5; see 0 = 5/1; put 0 0; see 0 = 0/1; erase 0; see 0 = 7000/1");
        STORY.says("otherwise, if some member of it is no leaf, it is ROLLED UP", "member 0 0 1; go 1 0 0; put 0 5",
                "go 0 0 0; see 0 = 5/2; pattern 0 1 0; rule 7; see 0 = 7000/1; dropRule 0; see 0 = 5/2");
        STORY.says("A cell of leaves alone without input and rule is EMPTY", "see 0 = EMPTY/1; text 0 = empty",
                "pattern 0 1 0; member 0 -1 1; rule 7; go 1 0 0; see 0 = EMPTY/1");
        STORY.says("a rule for an inner cell, an unseen input in it", "put 0 5; member 0 0 1; rule 7; see 0 = 7000/1",
                "dropRule 0; see 0 = 0/2");
    }

    private static void rolls() {
        String[] wants = {"EMPTY/1", "15000/4", "5000/4", "4000/2", "6000/2"};
        String[] holes = {"EMPTY/1", "5000/4", "1667/4", "EMPTY/2", "EMPTY/2"};
        String[] none = {"EMPTY/1", "0/4", "0/4", "EMPTY/2", "EMPTY/2"};
        for (int roll = 0; roll < 5; roll++) {
            STORY.inEachDimension("0 it is EMPTY; 1 the sum; 2 the mean; 3 the first one; 4 the last one: " + roll,
                    "member D -1 " + roll, "3x member D 1 0",
                    "at D 1; see 0 = " + none[roll], "at D 3; put 0 5000; at D 1; see 0 = " + holes[roll], "at D 2",
                    "put 0 4000; at D 4; put 0 6000; at D 1; see 0 = " + wants[roll]);
        }
        STORY.says("in their order", "member 0 -1 3; member 0 -1 4; 3x member 0 1 1; go 4 0 0; put 0 44; go 3 0 0",
                "put 0 33; go 5 0 0; put 0 55; go 1 0 0; see 0 = 33/2",
                "move 0 4 2 = 1; move 0 3 2 = 1; see 0 = 55/2; go 2 0 0; see 0 = 44/2; move 0 0 2; see 0 = 44/2",
                "move 0 0 1; go 1 0 0; see 0 = EMPTY/2; go 0 0 0; put 0 9; go 1 0 0; see 0 = 9/2");
        STORY.says("0 it is EMPTY: whatever is below", "member 0 -1 0; member 0 1 1; rule x1?5:x1 = 0; go 1 0 0",
                "pattern 0 1 1; see 0 = RING/1; dropRule 0; see 0 = EMPTY/1");
        STORY.says("over one child", "member 0 -1 2; member 0 1 1; go 2 0 0; put 0 -7; go 1 0 0; see 0 = -7/2",
                "member 0 1 1; see 0 = -4/3");
    }

    private static void theFirstInnerDimension() {
        STORY.says("along the first dimension in which that is so", "member 0 -1 3; member 0 1 1; member 1 -1 4",
                "2x member 1 1 1; member 2 -1 2; 2x member 2 1 1",
                "go 2 2 2; put 0 1; go 2 2 3; put 0 2; go 2 3 2; put 0 3; go 2 3 3; put 0 6", "go 1 2 2; see 0 = 1/2",
                "go 2 1 2; see 0 = 3/2; go 2 2 1; see 0 = 2/3",
                "go 1 1 2; see 0 = 3/3; go 1 2 1; see 0 = 2/4; go 2 1 1; see 0 = 5/4; go 1 1 1; see 0 = 5/5");
        STORY.says("the first one decides", "member 0 -1 0; member 0 1 1; member 1 -1 1; member 1 1 1; go 1 1 0",
                "see 0 = EMPTY/1; go 2 1 0; see 0 = 0/2; go 1 2 0; see 0 = EMPTY/1");
    }

    private static void sumsInTheEnd() {
        String three = "member 0 -1 1; 3x member 0 1 1;";
        STORY.says("(sums of several: only in the end)", three + "go 2 0 0; put 0 2000000000; go 3 0 0",
                "put 0 2000000000; go 1 0 0; see 0 = OVER/4; go 4 0 0; put 0 -2000000000; go 1 0 0",
                "see 0 = 2000000000/4",
                "go 4 0 0; put 0 -1999999999; go 1 0 0; see 0 = OVER/4");
        STORY.says("What is no NUMBER then is OVERFLOW: sums", three + "go 2 0 0; put 0 2000000000; go 1 0 0",
                "see 0 = 2000000000/4; go 3 0 0; put 0 1; go 1 0 0; see 0 = OVER/4; text 0 = over; go 4 0 0",
                "put 0 -1; go 1 0 0",
                "see 0 = 2000000000/4");
        STORY.says("What is no NUMBER then is OVERFLOW: sums below 0", three + "go 2 0 0; put 0 -2000000000",
                "go 1 0 0; see 0 = -2000000000/4; go 3 0 0; put 0 -1; go 1 0 0; see 0 = OVER/4; go 4 0 0; put 0 1",
                "go 1 0 0",
                "see 0 = -2000000000/4");
        STORY.says("a sum that overflows below another", "member 0 -1 1; member 0 1 1; 2x member 0 2 1; go 3 0 0",
                "put 0 2000000000; go 4 0 0; put 0 1; go 1 0 0; see 0 = OVER/4; member 0 1 1; go 5 0 0; put 0 -1",
                "go 1 0 0",
                "see 0 = OVER/5");
    }

    private static void means() {
        String two = "member 0 -1 2; 2x member 0 1 1; go 2 0 0; put 0 A; go 3 0 0; put 0 B; go 1 0 0; see 0 = ";
        String[][] halves = {{"1", "0", "1"}, {"-1", "0", "-1"}, {"1", "2", "2"}, {"-1", "-2", "-2"}, {"3", "2", "3"},
                {"-3", "-2", "-3"}, {"1", "-1", "0"}, {"2", "-1", "1"}, {"1", "-2", "-1"}, {"1", "1", "1"},
            {"2000000000", "2000000000", "2000000000"}, {"-2000000000", "-2000000000", "-2000000000"}, {"2000000000",
            "1999999999", "2000000000"}, {"-2000000000", "-1999999999", "-2000000000"},
            {"2000000000", "-2000000000", "0"}};
        for (String[] half : halves) {
            STORY.says("the mean of roll 2 is rounded to the nearest whole, halves away from zero", two.replace("A",
                    half[0]).replace("B", half[1]) + half[2] + "/3");
        }
        String three = "member 0 -1 2; 3x member 0 1 1; go 2 0 0; put 0 A; go 1 0 0; see 0 = ";
        String[][] thirds = {{"1", "0"}, {"2", "1"}, {"4", "1"}, {"5", "2"}, {"-1", "0"}, {"-2", "-1"}, {"-4", "-1"},
                {"-5", "-2"}, {"3", "1"}, {"0", "0"}};
        for (String[] third : thirds) {
            STORY.says("all added up and divided by how many (EMPTY counts as 0)", three.replace("A", third[0])
                    + third[1] + "/4");
        }
        STORY.says("by how many: five", "move 0 0 -1; member 0 -1 2; 4x member 0 1 1; move 0 0 1 = 1; go 5 0 0",
                "put 0 7; go 1 0 0; see 0 = 1/6; go 0 0 0; put 0 1; go 1 0 0; see 0 = 2/6");
        STORY.says("means: only in the end", "member 0 -1 2; 4x member 0 1 1; go 2 0 0; put 0 2000000000; go 3 0 0",
                "put 0 2000000000; go 4 0 0; put 0 2000000000; go 5 0 0; put 0 -2000000000; go 1 0 0",
                "see 0 = 1000000000/5");
    }

    private static void empty() {
        of("EMPTY counts as 0 in sums", "-", "5", "x0+x1", "5/3");
        of("EMPTY counts as 0 in sums", "-", "-", "x0+x1", "0/3");
        of("EMPTY counts as 0 in differences", "-", "5", "x0-x1", "-5/3");
        of("EMPTY counts as 0 in differences", "5", "-", "x0-x1", "5/3");
        of("EMPTY counts as 0 in products", "-", "5", "x0*x1", "0/3");
        of("EMPTY counts as 0 in products", "5", "-", "x0*x1", "0/3");
        of("EMPTY counts as 0 in quotients", "-", "5", "x0/x1", "0/3");
        of("EMPTY counts as 0 in quotients", "5", "-", "x0/x1", "DIV/3");
        of("EMPTY counts as 0 in quotients", "-", "-", "x0/x1", "DIV/3");
        of("EMPTY counts as 0 as the condition", "-", "-", "x0?1:2", "2000/2");
        of("is handed on as it is by a formula that is just that reference", "-", "-", "x0", "EMPTY/2");
        of("(in ( ), too)", "-", "-", "(x0)", "EMPTY/2");
        of("(in ( ), too)", "-", "-", "(((x0)))", "EMPTY/2");
        of("handed on by ? :", "-", "-", "1?x0:2", "EMPTY/2");
        of("handed on by ? :", "-", "-", "0?2:x0", "EMPTY/2");
        of("handed on by ? :", "-", "-", "0?2:(1?x0:5)", "EMPTY/2");
        of("a sum of it is a number", "-", "-", "x0+0", "0/2");
        of("a sum of it is a number", "-", "-", "(1?x0:2)-0", "0/2");
        of("a product of it is a number", "-", "-", "1*x0", "0/2");
        of("a quotient of it is a number", "-", "-", "x0/1", "0/2");
        STORY.says("and by rolls 3 and 4", "member 0 -1 3; member 0 1 4; member 0 2 1; go 1 0 0; see 0 = EMPTY/3",
                "go 3 0 0; put 0 0; go 1 0 0; see 0 = 0/3");
        STORY.says("not by rolls 1 and 2", "member 0 -1 1; member 0 1 2; member 0 2 1; go 2 0 0; see 0 = 0/2",
                "go 1 0 0; see 0 = 0/3");
    }

    private static void shiftsToNoCell() {
        String sentence = "A reference with a shift to no cell is EMPTY";
        for (String text : new String[] {"x1", "x5", "x<", "x>", "x^", "y<", "y>", "y^", "y4", "z<", "z>", "z^", "z3",
                "x1x0", "x0x1", "x^x0", "x<x>", "y1y$", "z5x$", "x<x$", "x^y$", "y0z0x1", "z0z0z0z^"}) {
            is(sentence, text, "EMPTY/1");
            is(sentence + " (in a sum)", text + "+1", "1000/1");
        }
        STORY.says("(both from a leaf alone)", "member 0 0 1; member 0 -1 1; go 0 0 0; pattern 0 1 0; rule x< = 0",
                "see 0 = EMPTY/1; dropRule 0; pattern 0 1 0; rule x> = 0; see 0 = EMPTY/1");
        STORY.says("ahead of the first leaf, behind the last one", "member 0 -1 1; put 0 1; go 1 0 0; put 0 2",
                "member 1 -1 1; pattern 1 1 1; rule y0x<; pattern 1 1 1; go 0 1 0; see 0 = EMPTY/1; go 1 1 0",
                "see 0 = 1/2",
                "rule y0x>; dropRule 0; see 0 = EMPTY/1; go 0 1 0; see 0 = 2/2");
    }

    private static void sumsOverChildren() {
        STORY.says("$ gives the sum over the children (0 without any)", "rule x$ = 0; see 0 = 0/1; state 0 = NUMBER",
                "rule x0y0z$ = 0; see 0 = 0/1; rule y$?1:2 = 0; see 0 = 2000/1");
        String four = "member 0 -1 0; 3x member 0 1 1; pattern 0 1 0; rule x1x$ = 0;";
        STORY.says("$ all its children: EMPTY ones count as 0", four + "see 0 = 0/4; go 3 0 0; put 0 7; go 0 0 0",
                "see 0 = 7/4; go 2 0 0; put 0 5; go 4 0 0; put 0 -20; go 0 0 0; see 0 = -8/4");
        STORY.says("$: only in the end", four + "go 2 0 0; put 0 2000000000; go 3 0 0; put 0 1; go 0 0 0",
                "see 0 = OVER/4; go 4 0 0; put 0 -1; go 0 0 0; see 0 = 2000000000/4");
        STORY.says("$ is not the roll", four + "go 2 0 0; put 0 7; go 1 0 0; see 0 = EMPTY/1; go 0 0 0; see 0 = 7/4");
        STORY.says("$: all its children, of inner ones too", "member 0 0 1; member 0 1 1; member 0 0 3; member 0 3 1",
                "member 1 -1 1; go 2 0 0; put 0 5; go 4 0 0; put 0 6; pattern 1 1 1; rule y0x$; go 0 1 0",
                "see 0 = 11/5",
                "go 1 1 0; see 0 = 5/2; go 2 1 0; see 0 = 0/1");
        STORY.says("$ in each dimension", "member 0 0 1; member 1 0 1; member 2 0 1; go 1 1 1; put 0 3",
                "pattern 0 1 0; rule x1y1z$; go 0 1 1; see 0 = 0/1; pattern 0 1 0; rule x1y1z0z$; see 0 = 3/2",
                "pattern 0 1 0; rule z1y1x$; see 0 = 3/2; pattern 1 1 0; rule x1z1y$; go 1 0 0; see 0 = 3/2",
                "go 0 0 0; see 0 = 3/2");
    }

    private static void neighbours() {
        String leaves = "member 0 -1 1; 2x member 0 0 1; member 0 1 1; member 0 -1 1; member 1 -1 1; go 2 0 0;"
                + "put 0 2; go 3 0 0; put 0 3; go 4 0 0; put 0 4; go 5 0 0; put 0 5; pattern 1 1 1;";
        STORY.says("< the leaf ahead of it in the order", leaves + "rule y0x<; go 2 1 0; see 0 = EMPTY/1; go 3 1 0",
                "see 0 = 2/2; go 4 1 0; see 0 = 3/2; go 5 1 0; see 0 = 4/2; go 0 1 0; see 0 = EMPTY/1; go 1 1 0",
                "see 0 = EMPTY/1");
        STORY.says("> the leaf behind it", leaves + "rule y0x>; go 2 1 0; see 0 = 3/2; go 3 1 0; see 0 = 4/2",
                "go 4 1 0; see 0 = 5/2; go 5 1 0; see 0 = EMPTY/1; go 0 1 0; see 0 = EMPTY/1; go 1 1 0",
                "see 0 = EMPTY/1");
        STORY.says("one or more SHIFTS", leaves + "rule y0x<x<; go 4 1 0; see 0 = 2/2; go 3 1 0; see 0 = EMPTY/1",
                "rule y0x>x>x>; dropRule 0; go 2 1 0; see 0 = 5/2; go 3 1 0; see 0 = EMPTY/1; rule x<x>y0",
                "dropRule 0; see 0 = 3/2");
        STORY.says("the order as it is then", leaves + "rule y0x<; go 4 1 0; see 0 = 3/2; move 0 4 0; see 0 = 3/2",
                "move 0 3 -1; see 0 = 2/2; move 0 2 5; see 0 = EMPTY/1");
        for (int d = 0; d < 3; d++) {
            String letter = "" + "xyz".charAt(d);
            STORY.says("each a letter of x y z (dimension 0, 1, 2)", "member 0 -1 1; member 1 -1 1; member 2 -1 1",
                    "go 0 1 1; put 0 10; go 1 0 1; put 0 11; go 1 1 0; put 0 12; rule " + letter + "<; go 1 1 1",
                    "see 0 = 1" + d + "/2",
                    "rule " + letter + "0; see 0 = 1" + d + "/2; rule " + letter + "1; see 0 = RING/1");
        }
    }

    private static void parentsAndDigits() {
        STORY.says("^ its parent", "member 0 -1 1; 2x member 0 1 1; member 1 -1 1; go 2 0 0; put 0 5; go 3 0 0",
                "put 0 6; pattern 1 1 1; rule y0x^; go 2 1 0; see 0 = 11/4; go 1 1 0; see 0 = EMPTY/1; go 0 1 0",
                "see 0 = EMPTY/1",
                "pattern 1 1 1; rule x^y0x2; go 3 1 0; see 0 = 5/2; pattern 1 1 1; rule x^x^y0; go 3 1 0",
                "see 0 = EMPTY/1; move 0 1 0; see 0 = 11/5");
        STORY.says("a digit that member: 0 .. 5", "5x member 0 -1 1; member 1 -1 1; put 0 1; go 5 0 0; put 0 2",
                "go 3 0 0; put 0 3; pattern 1 1 1; rule x0y0; go 4 1 0; see 0 = 1/2; pattern 1 1 1; rule x5y0",
                "see 0 = 2/2",
                "pattern 1 1 1; rule x3y0; see 0 = 3/2; pattern 1 1 1; rule x2y0; see 0 = EMPTY/2; go 3 1 0",
                "see 0 = EMPTY/2");
        STORY.says("a digit of a member that is not there is a shift to no cell", "member 0 -1 1; go 1 0 0; put 0 5",
                "go 0 0 0; pattern 0 1 0; rule x2+1; see 0 = 1000/1; member 0 -1 1; see 0 = 1000/2");
        STORY.says("an inner member, too", "member 0 -1 1; member 0 1 1; member 0 1 1; go 2 0 0; put 0 4; go 3 0 0",
                "put 0 5; pattern 0 1 0; rule x1*2; go 0 0 0; see 0 = 18/4");
    }

    private static void products() {
        String sentence = "A product is divided by 1000, rounded to the nearest whole, halves away from zero";
        String[][] rows = {{"1500", "2000", "3000"}, {"1", "1", "0"}, {"1", "499", "0"}, {"1", "500", "1"}, {"1",
                "501", "1"}, {"1", "1499", "1"}, {"1", "1500", "2"}, {"-1", "499", "0"}, {"-1", "500", "-1"},
            {"1", "-1499", "-1"}, {"1", "-1500", "-2"}, {"-1", "-500", "1"}, {"-1", "-499", "0"}, {"0", "-2000000000",
            "0"}, {"1", "2000000000", "2000000"}};
        for (String[] row : rows) {
            of(sentence, row[0], row[1], "x0*x1", row[2] + "/3");
        }
        String over = "What is no NUMBER then is OVERFLOW: products";
        of(over, "2000000000", "1000", "x0*x1", "2000000000/3");
        of(over, "2000000000", "1001", "x0*x1", "OVER/3");
        of(over, "2000000000", "-1000", "x0*x1", "-2000000000/3");
        of(over, "-2000000000", "1001", "x0*x1", "OVER/3");
        of(over + " (rounded)", "5871", "340657469", "x0*x1", "2000000000/3");
        of(over + " (rounded)", "2350", "851063830", "x0*x1", "OVER/3");
        of(over + " (rounded)", "-5871", "340657469", "x0*x1", "-2000000000/3");
        of(over + " (rounded)", "2350", "-851063830", "x0*x1", "OVER/3");
        of(over, "2000000000", "2000000000", "x0*x1", "OVER/3");
        of(over, "-2000000000", "-2000000000", "x0*x1", "OVER/3");
        of(over, "2000000000", "-2000000000", "x0*x1", "OVER/3");
    }

    private static void quotients() {
        String sentence = "a quotient is that of a thousand times the dividend, rounded, halves away from zero";
        String[][] rows = {{"7000", "2000", "3500"}, {"1000", "3000", "333"}, {"2000", "3000", "667"}, {"1", "2000",
                "1"}, {"1", "2001", "0"}, {"1", "1999", "1"}, {"3", "2000", "2"}, {"2999", "2000000", "1"}, {"3000",
                "2000000", "2"},
            {"-1", "2000", "-1"}, {"1", "-2000", "-1"}, {"-1", "-2000", "1"}, {"-1", "2001", "0"}, {"-3", "2000",
            "-2"}, {"-2999", "2000000", "-1"}, {"0", "5", "0"}, {"0", "-5", "0"}, {"1", "2000000000", "0"},
            {"1000000", "2000000000", "1"}, {"999999", "2000000000", "0"}, {"-1000000", "2000000000", "-1"},
            {"2000000000", "2000000000", "1000"}, {"2000000000", "-2000000000", "-1000"}};
        for (String[] row : rows) {
            of(sentence, row[0], row[1], "x0/x1", row[2] + "/3");
        }
        String over = "What is no NUMBER then is OVERFLOW: quotients";
        of(over, "2000000", "1", "x0/x1", "2000000000/3");
        of(over, "2000001", "1", "x0/x1", "OVER/3");
        of(over, "-2000000", "1", "x0/x1", "-2000000000/3");
        of(over, "2000001", "-1", "x0/x1", "OVER/3");
        of(over, "2000000000", "1000", "x0/x1", "2000000000/3");
        of(over, "2000000000", "999", "x0/x1", "OVER/3");
        of(over, "-2000000000", "999", "x0/x1", "OVER/3");
        of(over, "2000000000", "1", "x0/x1", "OVER/3");
    }

    private static void sumsAndDifferences() {
        String over = "What is no NUMBER then is OVERFLOW: sums and differences of two";
        of(over, "1999999999", "1", "x0+x1", "2000000000/3");
        of(over, "2000000000", "1", "x0+x1", "OVER/3");
        of(over, "-1999999999", "-1", "x0+x1", "-2000000000/3");
        of(over, "-2000000000", "-1", "x0+x1", "OVER/3");
        of(over, "-1999999999", "1", "x0-x1", "-2000000000/3");
        of(over, "-2000000000", "1", "x0-x1", "OVER/3");
        of(over, "1999999999", "-1", "x0-x1", "2000000000/3");
        of(over, "2000000000", "-1", "x0-x1", "OVER/3");
        of(over, "2000000000", "2000000000", "x0+x1", "OVER/3");
        of(over, "-2000000000", "2000000000", "x0-x1", "OVER/3");
        of(over, "2000000000", "2000000000", "x0-x1", "0/3");
    }

    private static void fromTheLeft() {
        String sentence = "+ and -, and * and /, from the left, each one by itself";
        of(sentence, "2000000000", "1", "x0+x1-x1", "OVER/4");
        of(sentence, "2000000000", "1", "x0-x1+x1", "2000000000/4");
        of(sentence, "2000000000", "2000", "x0*x1/x1", "OVER/4");
        of(sentence, "2000000000", "2000", "x0/x1*x1", "2000000000/4");
        of(sentence, "1", "2", "x0*x1*1000", "0/3");
        of(sentence, "1", "3000", "x0/x1*x1", "0/4");
        of(sentence, "2000", "3000", "x0/x1*x1", "2001/4");
        of(sentence, "9000", "2000", "x0-x1-x1", "5000/4");
        of(sentence, "9000", "2000", "x0-(x1-x1)", "9000/4");
        of(sentence, "8000", "2000", "x0/x1/x1", "2000/4");
        of(sentence, "8000", "2000", "x0/(x1/x1)", "8000/4");
        of(sentence, "8000", "2000", "x0/x1*x1", "8000/4");
        of("A sum: products with + or - between", "8000", "2000", "x0+x1*x1-x0/x1", "8000/6");
        of("A sum: products with + or - between", "8000", "2000", "(x0+x1)*(x1-x0)/x1", "-30000/6");
        of("a sum, ?, a formula, :, and a formula", "8000", "2000", "x0-x1*4?1+1:2+2", "4000/3");
        of("a sum, ?, a formula, :, and a formula", "8000", "2000", "x0-x1*3?1+1:2+2", "2000/3");
    }

    private static void divisions() {
        String sentence = "A division by 0 is DIVISION";
        is(sentence, "1/0", "DIV/1");
        is(sentence, "0/0", "DIV/1");
        is(sentence, "1/00000", "DIV/1");
        is(sentence, "1/(1-1)", "DIV/1");
        is(sentence, "1/x1", "DIV/1");
        is(sentence, "1/x$", "DIV/1");
        of(sentence + " (one thousandth is none)", "1", "1", "x0/x1", "1000/3");
        of(sentence + " (one thousandth is none)", "1", "-1", "x0/x1", "-1000/3");
        of(sentence, "2000000000", "0", "x0/x1", "DIV/3");
        of(sentence + ", also one that is rounded to 0", "1", "1", "1/(x0*x1)", "DIV/3");
        STORY.says(sentence, "rule 1/0; state 0 = DIV; value 0 = 0; text 0 = div");
    }

    private static void theStrongerOne() {
        String over = "(9999*9999)";
        String[] signs = {"+", "-", "*", "/"};
        for (String sign : signs) {
            is("If one of two is RING, the result is that", "x0" + sign + over, "RING/1");
            is("If one of two is RING, the result is that", over + sign + "x0", "RING/1");
            is("If one of two is RING, the result is that", "x0" + sign + "(1/0)", "RING/1");
            is("If one of two is RING, the result is that", "(1/0)" + sign + "x0", "RING/1");
            is("If one of two is RING, the result is that", "x0" + sign + "x0", "RING/1");
            is("If one of two is RING, the result is that", "x0" + sign + "0", "RING/1");
            is("If one of two is RING, the result is that", "0" + sign + "x0", "RING/1");
            is("If one of two is RING, the result is that", "x1" + sign + "x0", "RING/1");
            is("If one of two is RING, the result is that", "x0" + sign + "x1", "RING/1");
            is("otherwise OVERFLOW", over + sign + "(1/0)", "OVER/1");
            is("otherwise OVERFLOW", "(1/0)" + sign + over, "OVER/1");
            is("otherwise OVERFLOW", over + sign + over, "OVER/1");
            is("otherwise OVERFLOW", over + sign + "0", "OVER/1");
            is("otherwise OVERFLOW", "0" + sign + over, "OVER/1");
            is("otherwise OVERFLOW", over + sign + "x1", "OVER/1");
            is("otherwise OVERFLOW", "x1" + sign + over, "OVER/1");
            is("otherwise DIVISION", "(1/0)" + sign + "(1/0)", "DIV/1");
            is("otherwise DIVISION", "(1/0)" + sign + "0", "DIV/1");
            is("otherwise DIVISION", "0" + sign + "(1/0)", "DIV/1");
            is("otherwise DIVISION", "(1/0)" + sign + "x1", "DIV/1");
            is("otherwise DIVISION", "x1" + sign + "(1/0)", "DIV/1");
            is("otherwise DIVISION", "5" + sign + "(1/0)", "DIV/1");
        }
        String[] parts = {"1/0", "99999*99999", "x1"};
        int[][] orders = {{0, 1, 2}, {0, 2, 1}, {1, 0, 2}, {1, 2, 0}, {2, 0, 1}, {2, 1, 0}};
        String[] wants = {"DIV/", "OVER/", "RING/"};
        for (int roll = 1; roll <= 2; roll++) {
            for (int[] order : orders) {
                StringBuilder rules = new StringBuilder("member 0 -1 " + roll + "; 3x member 0 1 1; go 1 0 0;");
                int strongest = 0;
                for (int i = 0; i < 3; i++) {
                    strongest = Math.max(strongest, order[i]);
                    rules.append("pattern 0 1 ").append(2 + i).append("; rule ").append(parts[order[i]]).append(";"
                            + "see 0 = ").append(wants[strongest]).append("4;");
                }
                STORY.says("If one of several is RING, the result is that; otherwise OVERFLOW; otherwise DIVISION",
                        rules.toString());
            }
            STORY.says("one of several before a sum that is no number", "member 0 -1 " + roll + "; 3x member 0 1 1",
                    "go 2 0 0; put 0 2000000000; go 3 0 0; put 0 2000000000; pattern 0 1 4; rule 1/0; go 1 0 0",
                    "see 0 = DIV/4",
                    "pattern 0 1 4; rule x1; see 0 = RING/4");
        }
        STORY.says("one of several: $", "member 0 -1 0; 3x member 0 1 1; pattern 0 1 0; rule x1x$; pattern 0 1 3",
                "rule 1/0; see 0 = DIV/4; pattern 0 1 2; rule 99999*99999; see 0 = OVER/4; pattern 0 1 4; rule x0",
                "see 0 = RING/4");
        STORY.says("rolls 3 and 4 hand them on", "member 0 -1 3; member 0 -1 4; member 0 1 1; member 0 2 1",
                "pattern 0 1 3; rule 1/0; pattern 0 1 4; rule x2; go 1 0 0; see 0 = DIV/2; go 2 0 0; see 0 = RING/2");
    }

    private static void bothPartsAreWorkedOut() {
        String sentence = "Both parts are worked out, whatever the first one is";
        of(sentence, "5", "6", "1/0+x0", "DIV/2");
        of(sentence, "5", "6", "x2*x0", "RING/2");
        of(sentence, "5", "6", "0*x0*x1", "0/3");
        of(sentence, "0", "6", "x0/x0-x1", "DIV/4");
        of(sentence, "5", "6", "99999*99999/x1", "OVER/2");
        of(sentence, "5", "6", "x0/(0*x1)", "DIV/3");
        STORY.says("all of several are worked out", "member 0 -1 1; 3x member 0 1 1; pattern 0 1 2; rule x1",
                "go 1 0 0; see 0 = RING/4; pattern 0 1 3; rule x4; see 0 = RING/5");
    }

    private static void conditions() {
        of("The condition counts as true if it is above 0", "1", "-", "x0?1:2", "1000/2");
        of("The condition counts as true if it is above 0", "0", "-", "x0?1:2", "2000/2");
        of("The condition counts as true if it is above 0", "-1", "-", "x0?1:2", "2000/2");
        of("The condition counts as true if it is above 0", "2000000000", "-", "x0?1:2", "1000/2");
        of("The condition counts as true if it is above 0", "-2000000000", "-", "x0?1:2", "2000/2");
        of("one that is RING, OVERFLOW or DIVISION is the result", "5", "6", "x2?x0:x1", "RING/1");
        of("one that is RING, OVERFLOW or DIVISION is the result", "5", "6", "99999*99999?x0:x1", "OVER/1");
        of("one that is RING, OVERFLOW or DIVISION is the result", "5", "6", "1/0?x0:x1", "DIV/1");
        of("is the result: of that formula", "5", "6", "(1/0?x0:x1)+x2", "RING/1");
        of("is the result: of that formula", "5", "6", "1?1/0?x0:x1:3", "DIV/1");
        of("is the result: of that formula", "5", "6", "0?3:1/0?x0:x1", "DIV/1");
        of("is the result: of that formula", "5", "6", "(1/0?x0:x1)*x0+1", "DIV/2");
        of("is the result: of that formula", "5", "6", "(x2?x0:x1)?x0:x1", "RING/1");
        of("Only the formula chosen is worked out", "5", "6", "1?x0:x1", "5/2");
        of("Only the formula chosen is worked out", "5", "6", "0?x0:x1+x1", "12/3");
        of("Only the formula chosen is worked out", "5", "6", "x0?x1:x2", "6/3");
        of("Only the formula chosen is worked out", "0", "6", "x0?x2:x1", "6/3");
        of("Only the formula chosen is worked out", "5", "6", "1?7:1/0", "7000/1");
        of("Only the formula chosen is worked out", "5", "6", "0?1?x0:x1:x0+x1?8:9", "8000/3");
        of("Only the formula chosen is worked out", "5", "6", "1?0?x0:x1:x0", "6/2");
        of("Only the formula chosen is worked out", "5", "6", "x0?x1?x0:8:9", "5/4");
        of("a formula behind ? or :", "5", "6", "(1?2:3)+(0?4:5)", "7000/1");
        of("a formula behind ? or :", "5", "6", "2*(1?x0+x1:3)+1", "1022/3");
    }

    private static void rings() {
        is("A cell that is needed while it is being worked out is RING there", "x0", "RING/1");
        is("A cell that is needed while it is being worked out is RING there", "z0y0x0", "RING/1");
        STORY.says("RING there", "rule x0; state 0 = RING; value 0 = 0; text 0 = ring");
        String ring = "2x member 0 -1 1; pattern 0 1 0; rule x1; pattern 0 1 1; rule x2; pattern 0 1 2; rule x0?1:5;";
        STORY.says("a ring of three", ring + "see 0 = RING/3; go 1 0 0; see 0 = RING/3; go 2 0 0; see 0 = RING/3",
                "put 0 5; see 0 = 5/1; go 0 0 0; see 0 = 5/3; go 1 0 0; see 0 = 5/2");
        STORY.says("only while it is being worked out", "member 0 -1 1; go 1 0 0; pattern 0 1 1; rule x0+x0*1",
                "see 0 = 0/3; go 0 0 0; put 0 4; go 1 0 0; see 0 = 8/3");
        STORY.says("only while it is being worked out: through another", "2x member 0 -1 1; pattern 0 1 0",
                "rule x1+x2; pattern 0 1 1; rule x2+1; pattern 0 1 2; rule 3; see 0 = 7000/4");
        STORY.says("a ring that is not needed", "member 0 -1 1; pattern 0 1 0; rule 1?2:x0; see 0 = 2000/1",
                "pattern 0 1 1; rule x0; go 1 0 0; see 0 = 2000/2");
        STORY.says("a ring through a roll", "member 0 0 1; pattern 0 1 1; rule x0; see 0 = RING/2; go 1 0 0",
                "see 0 = RING/2; put 0 5; see 0 = 5/1; go 0 0 0; see 0 = 5/2");
        STORY.says("a ring through $", "member 0 0 1; pattern 0 1 1; rule x0x$+1; go 1 0 0; see 0 = RING/1; go 0 0 0",
                "see 0 = RING/2");
        STORY.says("rings leave nothing behind", "member 0 -1 1; pattern 0 1 0; rule x1; pattern 0 1 1; rule x0",
                "see 0 = RING/2; dropRule 1; see 0 = EMPTY/2; go 1 0 0; put 0 3; go 0 0 0; see 0 = 3/2");
    }

    private static void stepsAreCounted() {
        STORY.says("each cell that is begun to be worked out is one", "rule 7; see 0 = 7000/1; rule 1+2*3-4/5",
                "see 0 = 6200/1");
        STORY.says("also again", "member 0 -1 1; pattern 0 1 0; rule x1+x1+x1; see 0 = 0/4; pattern 0 1 1; rule 5",
                "see 0 = 15000/4");
        STORY.says("also one with an input, or an EMPTY one", "see 0 = EMPTY/1; put 0 5; see 0 = 5/1; member 0 0 1",
                "see 0 = 0/2; go 1 0 0; put 0 6; go 0 0 0; see 0 = 6/2");
        STORY.says("one that is RING because it is being worked out is none", "rule x0; see 0 = RING/1",
                "rule x0+x0+x0; see 0 = RING/1; member 0 -1 1; rule x0+x1; see 0 = RING/2; rule x1+x0+x1",
                "see 0 = RING/3");
        STORY.says("no cell is none", "rule x1+x<+y^+z5; see 0 = 0/1; rule x$; see 0 = 0/1");
        STORY.says("roll 3: what the first one is, roll 4: that one alone is worked out", "member 0 -1 3",
                "member 0 -1 4; 2x member 0 1 1; go 1 0 0; see 0 = EMPTY/2; move 0 3 2; move 0 4 2; go 2 0 0",
                "see 0 = EMPTY/2; go 1 0 0; see 0 = EMPTY/1");
        STORY.says("a roll over all", "5x member 0 0 1; see 0 = 0/6; 5x member 1 0 1; see 0 = 0/31; 5x member 2 0 1",
                "see 0 = 0/156; go 1 0 0; see 0 = 0/31; go 1 0 1; see 0 = 0/6; go 1 1 1; see 0 = EMPTY/1");
    }

    private static void theLatestSteps() {
        String sentence = "How many steps the latest state(), value(), shown() or spread() that answered took;"
                + "0 before";
        STORY.says(sentence, "steps = 0; state 0; steps = 1; steps = 1");
        STORY.says(sentence, "steps = 0; member 0 0 1; value 0; steps = 2");
        STORY.says(sentence, "steps = 0; member 0 0 1; shown 0 0; steps = 2; go 1 0 0; shown 0 -1; steps = 1");
        STORY.says(sentence, "steps = 0; 3x member 0 0 1; spread 0 9; steps = 3; state 0; steps = 4; spread 0 9",
                "steps = 3");
        STORY.says("that answered", "state 1 ! none; steps = 0; member 0 0 1; fuel 1; state 0 ! state",
                "value 0 ! state; shown 0 0 ! state; spread 1 1 ! none; steps = 0; fuel 2; value 0; steps = 2",
                "fuel 1",
                "state 0 ! state; value 0 ! state; shown 0 0 ! state; state 1 ! none; value 1 ! none",
                "shown 1 0 ! none; spread 0 MAX ! argument; steps = 2; go 1 0 0; state 0; steps = 1; go 0 0 0",
                "shown 0 1 ! state; steps = 1");
        STORY.says("no other call has steps", "member 0 0 1; state 0; steps = 2; go 1 0 0; put 0 5; erase 0; undo",
                "redo; winner; filled 0; count 5; rule 7; dropRule 0; layer; merge; member 0 0 1; move 0 2 -1",
                "drop 0 2; fuel 9; steps = 2");
        STORY.says("as many as it took, whatever the layer", "member 0 0 1; layer; state 1; steps = 2; spread 1 5",
                "steps = 1; go 1 0 0; state 1; steps = 1");
    }

    private static void fuel() {
        STORY.says("So many steps are allowed from now on (300 at first): what it was", "fuel 1 = 300; fuel 2000 = 1",
                "fuel 7 = 2000; fuel 300 = 7; fuel 300 = 300");
        STORY.says("IllegalArgumentException: n is not 1 .. 2000", "fuel 9; fuel 0 ! argument; fuel -1 ! argument",
                "fuel 2001 ! argument; fuel MIN ! argument; fuel MAX ! argument; fuel 1 = 9; fuel 0 ! argument",
                "fuel 2000 = 1; fuel 2001 ! argument; fuel 5 = 2000");
        STORY.says("it takes more steps than fuel() told", "5x member 0 0 1; fuel 6; see 0 = 0/6; fuel 5",
                "state 0 ! state; value 0 ! state; shown 0 0 ! state; go 1 0 0; fuel 1; see 0 = EMPTY/1; put 0 5",
                "see 0 = 5/1");
        String doubled = "5x member 0 -1 1; pattern 1 1 0; rule x<+x<;";
        STORY.says("each step again", doubled + "go 5 0 0; see 0 = 0/63; fuel 63; see 0 = 0/63; fuel 62",
                "state 0 ! state; go 4 0 0; see 0 = 0/31");
        STORY.says("(300 at first)", "5x member 0 -1 1; member 1 -1 1; pattern 1 1 0; rule x<+x<+x<; pattern 1 1 1",
                "rule y0x4+y0x4+y0x3; go 0 1 0; see 0 = 0/283; pattern 1 1 1; rule y0x4+y0x4+y0x3+y0x2",
                "see 0 = 0/296");
        STORY.says("(300 at first): just as many", "5x member 0 -1 1; 2x member 1 -1 1; pattern 1 1 0; rule x<+x<+x<",
                "pattern 1 1 1; rule y0x4+y0x4+y0x3+y0x2; pattern 1 1 2; rule y1+y0x0+y0x0; go 0 2 0; see 0 = 0/299",
                "pattern 1 1 2; rule y1+y0x0+y0x0+y0x0; see 0 = 0/300; pattern 1 1 2; rule y1+y0x1; state 0 ! state",
                "fuel 301 = 300; see 0 = 0/301; fuel 300; state 0 ! state");
    }

    /** The cell y2 takes 2000 steps, the cell y3 one more. */
    private static void theMostFuel() {
        String tree = "5x member 0 -1 1; 3x member 1 -1 1; pattern 1 1 0; rule x<+x<+x<; pattern 1 1 1;"
                + "rule y0x5+y0x5+y0x5+y0x5+y0x4; pattern 1 1 2; rule y1+y0x5+y0x3+y0x2+y0x1; pattern 1 1 3; rule y2;"
                + "go 0 2 0;";
        STORY.says("n is 1 .. 2000", tree + "state 0 ! state; fuel 1999; state 0 ! state; fuel 2000; see 0 = 0/2000",
                "go 0 3 0; state 0 ! state; value 0 ! state; shown 0 0 ! state; steps = 2000; go 0 1 0",
                "see 0 = 0/1578");
    }

    /** Each of the cells x y 0 asks for the next one: 20 cells from the first one to x1 y3. */
    private static final String CHAIN = "5x member 0 -1 1; 5x member 1 -1 1; rule x>; pattern 0 1 5; rule x0y>;"
            + "fuel 2000;";

    private static void twentyDeep() {
        String sentence = "at most 20 deep (the cursor's cell is the first; one with an input counts, too)";
        STORY.says(sentence, CHAIN + "go 0 3 0; put 0 19; go 0 0 0; see 0 = 19/19; go 0 3 0; erase 0; go 1 3 0",
                "put 0 20; go 0 0 0; see 0 = 20/20");
        STORY.says(sentence, CHAIN + "go 2 3 0; put 0 21; go 0 0 0; state 0 ! state; value 0 ! state",
                "shown 0 0 ! state; go 1 0 0; see 0 = 21/20; go 2 3 0; see 0 = 21/1");
        STORY.says("a cell with a number's rule counts, too", CHAIN + "pattern 0 1 1; pattern 1 1 3; rule 7",
                "see 0 = 7000/20; pattern 0 1 1; pattern 1 1 3; rule x>; pattern 0 1 2; pattern 1 1 3; rule 7",
                "state 0 ! state; go 1 0 0; see 0 = 7000/20");
        STORY.says("a shift to no cell is none", CHAIN + "pattern 0 1 1; pattern 1 1 3; rule z>; see 0 = EMPTY/20",
                "pattern 0 1 1; pattern 1 1 3; rule z$; see 0 = 0/20");
        STORY.says("an EMPTY cell counts, too", "5x member 0 -1 1; 5x member 1 -1 1; member 2 -1 1; pattern 2 1 0",
                "rule x>; pattern 0 1 5; pattern 2 1 0; rule x0y>; pattern 0 1 1; pattern 1 1 3; pattern 2 1 0",
                "rule z1; state 0 ! state",
                "go 1 0 0; see 0 = EMPTY/20; go 0 0 0; pattern 0 1 0; pattern 1 1 3; pattern 2 1 0; rule z1",
                "see 0 = EMPTY/20");
        STORY.says("one that is RING is no deeper", CHAIN + "pattern 0 1 1; pattern 1 1 3; rule x<; see 0 = RING/20",
                "pattern 0 1 1; pattern 1 1 3; rule x0y0; see 0 = RING/20; go 5 0 0; see 0 = RING/20");
        STORY.says("inside of one another: not behind one another", CHAIN + "go 1 3 0; put 0 5; pattern 0 1 0",
                "pattern 1 1 0; rule x>+x>+x>; go 0 0 0; see 0 = 15/58");
        STORY.says("too deep in a formula that is not chosen", CHAIN + "pattern 0 1 1; pattern 1 1 3; rule 1?8:x>",
                "see 0 = 8000/20; pattern 0 1 1; pattern 1 1 3; rule 0?8:x>; state 0 ! state");
        STORY.says("behind one that was too deep", CHAIN + "9x state 0 ! state; go 3 0 0; put 0 5; go 0 0 0",
                "see 0 = 5/4; go 0 1 0; put 0 6; go 4 0 0; see 0 = 6/3; go 3 0 0; erase 0; go 0 0 0; see 0 = 6/7");
    }

    /** The same chain: each cell's formula has eight parts that wait while the next cell is worked out. */
    private static final String WAITING = "5x member 0 -1 1; 5x member 1 -1 1; rule 1+1*(1+1*(1+1*(1+1*x>)));"
            + "pattern 0 1 5; rule 1+1*(1+1*(1+1*x0y>)); fuel 2000;";

    private static void partsThatWait() {
        STORY.says("20 deep, with all that waits", WAITING + "go 1 3 0; put 0 20; go 0 0 0; see 0 = 73020/20",
                "go 5 0 0; see 0 = 53020/15");
        STORY.says("behind one that was too deep, with all that waits", WAITING + "9x state 0 ! state",
                "9x value 0 ! state; go 1 3 0; put 0 20; go 0 0 0; value 0 = 73020; see 0 = 73020/20; fuel 19",
                "5x state 0 ! state; 5x shown 0 0 ! state; fuel 20; value 0 = 73020; steps = 20");
    }

    /** Six members below one another in each dimension: the only leaf cell is the 16th. */
    private static String stairs(int roll, String formula) {
        StringBuilder rows = new StringBuilder();
        for (int d = 0; d < 3; d++) {
            String five = "member D -1 R; drop D 0; member D 1 R; member D 0 R; member D 2 R; member D 3 R;";
            String stair = five + "member D 4 R; pattern D 2 5;";
            rows.append(stair.replace("D", "" + d).replace("R", "" + roll));
        }
        return rows + "rule " + formula + " = 0; go 1 1 1;";
    }

    private static void rollsTwentyDeep() {
        for (int roll = 1; roll <= 4; roll++) {
            STORY.says("rolled up cells count, too: roll " + roll, stairs(roll, "7") + "see 0 = 7000/16");
            STORY.says("at most 20 deep: roll " + roll, stairs(roll, "x2y4") + "see 0 = RING/20");
            STORY.says("at most 20 deep: roll " + roll, stairs(roll, "x0y4") + "state 0 ! state; go 0 1 1",
                    "see 0 = RING/20");
            STORY.says("$ is no cell itself: roll " + roll, stairs(roll, "x0y4x$") + "see 0 = RING/20");
            STORY.says("$ is no cell itself: roll " + roll, stairs(roll, "x1y4x$") + "state 0 ! state",
                    "value 0 ! state; shown 0 0 ! state");
        }
    }

    private static void looksAreRefused() {
        for (String call : new String[] {"state L", "value L", "shown L 0", "shown L -1"}) {
            String rows = "put 0 5; put 0 6; undo; 1 ! none; -1 ! none; 3 ! none; MIN ! none; MAX ! none; go 1 0 0;"
                    + "0 ! none; go 0 1 0; 0 ! none; go 0 0 1; 0 ! none; 1 ! none; go 0 0 0; redo = 0";
            STORY.says("NoSuchElementException: layer, or no cell: " + call, rows.replaceAll("(-?[0-9A-Z]+) !",
                    call.replace("L", "$1") + " !"));
        }
        STORY.says("none before state", "member 0 0 1; fuel 1; state 0 ! state; state 1 ! none; value -1 ! none",
                "shown 1 0 ! none; at 0 2; state 0 ! none; shown 0 0 ! none");
        STORY.says("IllegalStateException: also if no character is asked for", "member 0 0 1; fuel 1",
                "shown 0 -1 ! state; shown 0 99 ! state; shown 0 MIN ! state; shown 0 MAX ! state");
    }

    private static void values() {
        STORY.says("What the cursor's cell is: NUMBER, EMPTY, RING, OVERFLOW or DIVISION; its number, 0 if it is none",
                "state 0 = EMPTY; value 0 = 0; put 0 5; state 0 = NUMBER; value 0 = 5",
                "put 0 0; state 0 = NUMBER; value 0 = 0; erase 0",
                "rule x0; state 0 = RING; value 0 = 0; rule 99999*99999; state 0 = OVER; value 0 = 0; rule 1/0",
                "state 0 = DIV; value 0 = 0; put 0 -1; state 0 = NUMBER; value 0 = -1");
    }

    private static void texts() {
        String[][] texts = {{"0", "0"}, {"1", "0.001"}, {"-1", "-0.001"}, {"9", "0.009"}, {"10", "0.01"}, {"-10",
                "-0.01"}, {"11", "0.011"}, {"99", "0.099"}, {"100", "0.1"}, {"-100", "-0.1"}, {"101", "0.101"},
                {"110", "0.11"}, {"999", "0.999"},
            {"-999", "-0.999"}, {"1000", "1"}, {"-1000", "-1"}, {"1001", "1.001"}, {"1010", "1.01"}, {"1100", "1.1"},
            {"9999", "9.999"}, {"10000", "10"}, {"-10000", "-10"}, {"10001", "10.001"}, {"100500", "100.5"},
            {"1000000", "1000"}, {"2000000000", "2000000"}, {"-2000000000", "-2000000"},
            {"1999999999", "1999999.999"}, {"-1999999999", "-1999999.999"}, {"1999999990", "1999999.99"},
            {"1999999900", "1999999.9"}};
        for (String[] text : texts) {
            STORY.says("- if it is below 0, the whole thousands, a point and its three digits without zeros at the end",
                    "put 0 " + text[0] + "; text 0 = " + text[1]);
        }
        STORY.says("else empty, ring, over or div", "text 0 = empty; rule x0; text 0 = ring; rule 99999*99999",
                "text 0 = over; rule 1/0; text 0 = div");
        STORY.says("Character k as a code; -1 if there is none (k is below 0, too)", "put 0 -1050; shown 0 -1 = -1",
                "shown 0 0 = 45; shown 0 1 = 49; shown 0 2 = 46; shown 0 3 = 48; shown 0 4 = 53; shown 0 5 = -1",
                "shown 0 6 = -1; shown 0 MIN = -1; shown 0 MAX = -1");
        STORY.says("Character k: the longest text", "put 0 -1999999999; shown 0 0 = 45; shown 0 11 = 57",
                "shown 0 12 = -1; shown 0 8 = 46; put 0 0; shown 0 0 = 48; shown 0 1 = -1; erase 0; shown 0 0 = 101",
                "shown 0 4 = 121; shown 0 5 = -1; shown 0 -1 = -1");
    }
}
