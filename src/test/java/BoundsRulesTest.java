/** Sentence by sentence: patterns, the pad, formulas and their faults, which rule wins; promises 6 to 9 and 17. */
public final class BoundsRulesTest {
    private static final Story STORY = new Story("bounds of rules");

    public static void main(String[] args) {
        patterns();
        patternsAreRefused();
        patternsFit();
        thePadsCharacters();
        thePadIsFull();
        rulesAreMade();
        faults();
        somethingIsMissing();
        numbersInFormulas();
        references();
        formulasAreThreeDeep();
        colons();
        thereAreEightRules();
        rulesGo();
        oneRuleWins();
        STORY.end();
    }

    private static void patterns() {
        STORY.says("all are 0 at first, and behind each rule()", "5x member 0 -1 1; 2x member 1 -1 1; member 2 -1 1",
                "rule 1 = 0; go 5 2 1; winner = 0; pattern 0 1 3; pattern 1 2 2; pattern 2 1 0; rule 2 = 0",
                "rule 3 = 0",
                "go 0 0 0; winner = 2; go 5 2 1; winner = 2; go 3 2 0; winner = 1; dropRule 1; winner = 1");
        STORY.inEachDimension("and the patterns are 0, also behind a fault", "member D -1 1; pattern D 1 1",
                "rule 1+ = 3",
                "rule 2 = 0; winner = 0; pattern D 2 1; rule = 1; rule 2 = 0; winner = 1");
        STORY.inEachDimension("The pattern of a dimension: the latest one", "member D -1 1; pattern D 1 0",
                "pattern D 1 1",
                "rule 1; winner = -1; pattern D 1 1; pattern D 0 0; rule 2; winner = 1; pattern D 1 0; pattern D 2 1",
                "rule 3",
                "winner = 1; at D 1; winner = 2");
        STORY.says("kind is 0 .. 2", "pattern 0 0 0; pattern 0 1 0; pattern 0 2 0; rule 1; winner = 0");
        STORY.says("(for kinds 1 and 2) member: kind 0 has none", "pattern 0 0 -1; pattern 0 0 5; pattern 0 0 6",
                "pattern 0 0 MIN; pattern 0 0 MAX; rule 7; winner = 0; drop 0 0 = 0");
    }

    private static void patternsAreRefused() {
        String kept = "member 0 -1 1; pattern 0 1 1; type 1";
        STORY.says("NoSuchElementException: dimension, or (for kinds 1 and 2) member", kept, "pattern 0 1 2 ! none",
                "pattern 0 2 2 ! none; pattern 0 1 -1 ! none; pattern 0 2 -1 ! none; pattern 0 1 6 ! none",
                "pattern 0 2 6 ! none; pattern 0 1 MIN ! none; pattern 0 2 MAX ! none; pattern 1 1 1 ! none",
                "pattern 3 0 0 ! none; pattern -1 0 0 ! none; rule = 0; winner = -1; go 1 0 0; winner = 0");
        STORY.says("IllegalArgumentException: kind is not 0 .. 2", kept, "pattern 0 -1 0 ! argument",
                "pattern 0 3 0 ! argument",
                "pattern 0 MIN 0 ! argument; pattern 0 MAX 0 ! argument; rule = 0; winner = -1; go 1 0 0",
                "winner = 0");
        STORY.says("none before argument", kept, "pattern 3 3 0 ! none; pattern -1 -1 0 ! none",
                "pattern 3 -1 9 ! none",
                "pattern 0 3 9 ! argument; pattern 0 -1 2 ! argument");
    }

    private static void patternsFit() {
        STORY.inEachDimension("0 any member", "member D 0 1; member D -1 1; rule 7; winner = 0; at D 1; winner = 0",
                "at D 2; winner = 0");
        STORY.inEachDimension("1 just the member m", "member D 0 1; member D 1 1; pattern D 1 1; rule 7; winner = -1",
                "at D 1; winner = 0; at D 2; winner = -1; drop D 2; at D 1; winner = 0");
        STORY.inEachDimension("2 the leaves among m and all below it", "member D 0 1; member D 1 1; member D 0 1",
                "member D -1 1",
                "pattern D 2 1; rule 7; winner = -1; at D 1; winner = -1; at D 2; winner = 0; at D 3; winner = -1",
                "at D 4",
                "winner = -1; pattern D 2 0; rule 8; winner = -1; at D 3; winner = 1; at D 2; winner = 0; at D 0",
                "winner = -1");
        STORY.inEachDimension("the leaves among m: m itself, while it is one", "pattern D 2 0; rule 7; winner = 0",
                "member D 0 1",
                "winner = -1; at D 1; winner = 0; move D 1 -1; winner = -1; at D 0; winner = 0");
        STORY.says("of those all of whose patterns fit", "member 0 -1 1; member 1 -1 1; member 2 -1 1; pattern 0 1 1",
                "pattern 1 1 1; pattern 2 1 1; rule 7; go 1 1 1; winner = 0; go 0 1 1; winner = -1; go 1 0 1",
                "winner = -1",
                "go 1 1 0; winner = -1; go 0 0 0; winner = -1");
    }

    private static void thePadsCharacters() {
        String signs = "0123456789+-*/?:()xyz<>^$";
        for (int first = 0; first < 256; first += 16) {
            StringBuilder rows = new StringBuilder();
            int there = 0;
            for (int c = first; c < first + 16; c++) {
                boolean good = signs.indexOf((char) c) >= 0;
                there += good ? 1 : 0;
                rows.append("code " + c + " = " + good + "; count 8 = " + there + ";");
            }
            STORY.says("true; false when it is none of those that stand in formulas", rows.toString());
        }
        STORY.says("none of those: beyond 255", "code 256 = false; code 304 = false; code 376 = false",
                "code 1632 = false",
                "code 65336 = false; code 65535 = false; count 8 = 0; rule = 1");
    }

    private static void thePadIsFull() {
        STORY.says("a PAD of at most 24 characters", "23x code 49 = true; count 8 = 23; code 49 = true; count 8 = 24",
                "code 49 = false; count 8 = 24; code 97 = false; count 8 = 24; rule = 6; count 8 = 0; code 49 = true",
                "count 8 = 1");
        STORY.says("a formula of 24 characters", "type 1+1+1+1+1+1+1+1+1+1+1+12 = 24; code 43 = false; rule = 0",
                "see 0 = 23000/1");
        STORY.says("a formula of 24 characters: numbers, signs and a shift", "member 0 -1 1; go 1 0 0; put 0 7",
                "pattern 0 1 0; rule 1+1+1+1+1+1+1+1+1+1+1+x1 = 0; go 0 0 0; see 0 = 11007/2; pattern 0 1 0",
                "rule 2*1-1-1-1-1-1-1-1-1-1*x1 = 0; see 0 = -6007/2",
                "pattern 0 1 0; rule 0?1:0?2:0?3*4*5*6*7*8:x1 = 0; see 0 = 7/2");
        STORY.says("a formula of 24 characters: shifts", "type x0x0x0x0x0x0x0x0x0x0x0x1 = 24; type 1 = 0; rule = 0",
                "see 0 = EMPTY/1");
        STORY.says("Puts a character behind the pad's text", "type 12 = 2; type + = 1; type 3 = 1; rule = 0",
                "see 0 = 15000/1");
        STORY.says("the pad is no edit's and no look's", "type 7; put 0 5; undo; see 0; member 0 -1 1; layer; fuel 9",
                "count 8 = 1",
                "rule = 0; see 0 = 7000/1");
    }

    private static void rulesAreMade() {
        STORY.says("becomes a rule behind the others: 0", "rule 1 = 0; count 3 = 1; winner = 0; rule 2 = 0",
                "count 3 = 2",
                "winner = 1; see 0 = 2000/1");
        STORY.says("The pad is empty then", "type 5 = 1; rule = 0; count 8 = 0; rule = 1; count 8 = 0; rule 6) = 2",
                "count 8 = 0",
                "count 3 = 1; rule 7 = 0; see 0 = 7000/1");
        STORY.says("otherwise no rule, and edits stay", "put 0 5; put 0 6; undo; rule 1+ = 3; count 3 = 0",
                "winner = -1",
                "count 6 = 1; count 7 = 1; rule 1 = 0; count 6 = 0; count 7 = 0");
    }

    private static void fault(String sentence, String... texts) {
        for (String text : texts) {
            String[] parts = text.split(" ");
            STORY.says(sentence, "rule " + parts[0] + " = " + parts[1] + "; count 3 = 0; count 8 = 0; rule 7 = 0");
        }
    }

    private static void taken(String sentence, String... texts) {
        for (String text : texts) {
            STORY.says(sentence, "rule " + text + " = 0; count 3 = 1; count 8 = 0");
        }
    }

    /** Behind each text stands 1 + the place of its fault. */
    private static void faults() {
        fault("the place of the first character that can't stand there", ") 1", "+ 1", "- 1", "* 1", "/ 1", "? 1",
                ": 1",
                "< 1", "> 1", "^ 1", "$ 1", "1x0 2", "1y0 2", "1z0 2", "1( 2", "1) 2", "1< 2", "1> 2", "1^ 2", "1$ 2",
                "1: 2",
                "1+) 3", "1+-1 3", "1*/1 3", "1-? 3", "1/: 3", "1+< 3", "() 2", "(+ 2", "(1( 3", "(1x 3", "(1)1 4",
                "(1)( 4",
                "(1)x0 4", "(1)) 4", "1?) 3", "1?? 3", "1?: 3", "1?2) 4", "1?2:) 5", "1?2:3) 6", "1)+( 2",
                "1+2+3+4+5) 10");
        taken("products with + or - between, units with * or / between", "1+1", "1-1", "1*1", "1/1", "1+1-1*1/1",
                "(1)", "((1))",
                "(1)+(1)", "(1+1)*(1-1)", "1?2:3", "1+1?2*2:3/3", "(1?2:3)+4", "(1?2:3)?4:5");
    }

    private static void somethingIsMissing() {
        fault("or the text's length, if only something behind it is missing", "x 2", "y 2", "z 2", "1+ 3", "1- 3",
                "1* 3",
                "1/ 3", "( 2", "(1 3", "((1) 5", "1? 3", "1?2 4", "1?2: 5", "(1?2:3 7", "1+x 4", "x0y 4", "1?2?3:4 8",
                "(1?2 5",
                "1+1+1+1+1+1+1+1+1+1+1+1+ 25", "11+1+1+1+1+1+1+1+1+1+1+x 25", "((1+1+1+1+1+1+1+1+1+1+1) 25");
        STORY.says("1 + the fault: of no text", "rule = 1; rule = 1; count 3 = 0");
    }

    private static void numbersInFormulas() {
        taken("one to five digits", "0", "9", "00000", "99999", "1+12345", "12345*54321");
        fault("nor a sixth digit", "123456 6", "000000 6", "1+123456 8", "1234567 6", "(123456 7", "1?123456 8",
                "99999+100000 12");
        STORY.says("a whole number (12 is 12000 thousandths)", "rule 12 = 0; value 0 = 12000; rule 0 = 0",
                "value 0 = 0; rule 00012 = 0",
                "value 0 = 12000; rule 99999 = 0; value 0 = 99999000; rule 1 = 0; value 0 = 1000");
    }

    private static void references() {
        for (String letter : new String[] {"x", "y", "z"}) {
            for (String way : new String[] {"<", ">", "^", "0", "1", "2", "3", "4", "5", "$"}) {
                taken("each a letter of x y z and one of < > ^ 0 1 2 3 4 5 $", letter + way, "1+" + letter + way
                        + "*2");
            }
            for (String way : new String[] {"6", "7", "8", "9", "x", "y", "z", "+", "-", "*", "/", "?", ":", "(",
                    ")"}) {
                fault("one of < > ^ 0 1 2 3 4 5 $", letter + way + " 2");
            }
            taken("one or more SHIFTS", letter + "0x1y2z3", letter + "<" + letter + ">", letter + "^x$");
            fault("behind $ no other shift can stand (the next letter is wrong there)", letter + "$x0 3", letter
                    + "$y< 3",
                    letter + "$z 3", "x0" + letter + "$x$ 5", letter + "$$ 3", letter + "$< 3");
        }
        fault("a shift has one of these", "x00 3", "x<> 3", "x^^ 3", "x0y6 4", "x0yz 4", "x<1 3", "x$1 3", "x$( 3",
                "x0( 3");
        taken("behind $ a sign", "x$+y$", "x$-1", "x$*1", "x$/1", "x$?1:2", "(x$)", "1?x$:2");
        STORY.says("A digit may be that of a member that is not there", "rule x5 = 0; see 0 = EMPTY/1",
                "rule x1y2z3+1 = 0",
                "see 0 = 1000/1; about 0 5 0 ! none");
    }

    private static void formulasAreThreeDeep() {
        String deep = "? and ( can't stand in one that is 3 deep (the whole is 0 deep)";
        taken(deep, "(((1)))", "(((1+1)))", "1?2?3?4:5:6:7", "1?2:3?4:5?6:7", "((1?2:3))", "(1?(2):3)", "(1?2:(3))",
                "1?((2)):3",
                "1?2:((3))", "1?(2?3:4):5", "1?2?(3):4:5", "(1)?(2)?(3):4:5", "(((1)))+(((2)))", "(((1)))?2:3",
                "1+(1*(1-(1)))");
        fault(deep, "((((1)))) 4", "((((1 4", "1+(1*(1-(1/(1 12", "1?2?3?4?5:6:7:8:9 8", "1?2:3?4:5?6:7?8:9 14",
                "(((1?2:3))) 5",
                "((1?(1):3)) 5", "1?((2?3:4)):5 6");
        fault(deep, "(1?((2)):3) 5", "(1?2?3?4:5:6:7) 7", "((1?2?3:4:5)) 6", "1?2?(3?4:5):6:7 7", "1?2?((3)):4:5 6",
                "1?2:((1?(3):4)) 8", "1?2:(3?(4):5) 8", "1?2:3?((4 8");
        taken("the formula ahead of ? is no deeper", "(((1)))?(1):(2)", "(((1)))?((1)):((2))", "((1)?2:3)");
    }

    private static void colons() {
        String sentence = "nor : where no ? of the same formula waits for it";
        fault(sentence, "1:2 2", "(1:2) 3", "1?2:3:4 6", "1?(2:3) 5", "(1?2):3 5", "(1):2 4", "1?2:(3:4) 7",
                "1?(2)):3 6",
                "1?2?3:4:5:6 10", "x0:1 3", "1+1: 4", "1?2+(3):4:5 10", "x$:1 3");
        taken(sentence, "1?2:3", "1?2?3:4:5", "1?2:3?4:5", "1?2?3:4:5?6:7", "(1?2:3)", "1?(2?3:4):5", "1?2+(3):4");
    }

    private static void thereAreEightRules() {
        STORY.says("RULES are at most eight", "6x rule 1 = 0; rule 7 = 0; count 3 = 7; rule 8 = 0; count 3 = 8",
                "winner = 7",
                "see 0 = 8000/1; type 9; rule ! state; count 3 = 8; count 8 = 1; dropRule 0 = 7; rule = 0",
                "see 0 = 9000/1");
        STORY.says("IllegalStateException: there are eight, whatever the text is", "8x rule 1; put 0 5; put 0 6",
                "undo",
                "rule ! state; type ) = 1; rule ! state; count 8 = 1; count 7 = 1; dropRule 7 = 7; rule = 1",
                "rule = 1");
        STORY.says("such a call keeps the patterns", "8x rule 1; member 0 -1 1; pattern 0 1 1; type 9; rule ! state",
                "dropRule 0",
                "rule = 0; winner = 6; go 1 0 0; winner = 7; see 0 = 9000/1");
    }

    private static void rulesGo() {
        STORY.says("A rule goes, those behind it have one number less: how many there are", "rule 1; pattern 0 1 0",
                "rule 2",
                "rule 3; winner = 1; dropRule 0 = 2; winner = 0; see 0 = 2000/1; dropRule 0 = 1; winner = 0",
                "see 0 = 3000/1",
                "dropRule 0 = 0; winner = -1; see 0 = EMPTY/1");
        STORY.says("those ahead of it stay", "rule 1; rule 2; rule 3; dropRule 2 = 2; see 0 = 2000/1; dropRule 1 = 1",
                "see 0 = 1000/1; rule 4; winner = 1; see 0 = 4000/1");
        STORY.says("the eighth goes", "7x rule 1; rule 2; dropRule 7 = 7; winner = 6; see 0 = 1000/1; rule 3 = 0",
                "dropRule 0 = 7",
                "winner = 6; see 0 = 3000/1; rule 4; winner = 7; see 0 = 4000/1");
        STORY.says("NoSuchElementException: there is no such rule", "put 0 5; dropRule 0 ! none; dropRule -1 ! none",
                "2x rule 1",
                "put 0 5; put 0 6; undo; dropRule 2 ! none; dropRule -1 ! none; dropRule 8 ! none",
                "dropRule MIN ! none",
                "dropRule MAX ! none; dropRule 1 = 1; dropRule 1 ! none; dropRule 0 = 0; dropRule 0 ! none");
    }

    private static void oneRuleWins() {
        STORY.says("the one with the most patterns that are not 0", "member 0 0 1; member 0 1 1; member 1 -1 1",
                "pattern 0 1 2; rule 1",
                "rule 2; go 2 0 0; winner = 0; pattern 1 2 0; pattern 2 2 0; rule 3; winner = 2; pattern 0 1 2",
                "rule 4; winner = 2",
                "pattern 0 2 0; pattern 1 1 0; pattern 2 1 0; rule 5; winner = 4; go 2 1 0; winner = 3");
        STORY.inEachDimension("of several, that with the greatest sum of depths of their members (patterns 1 and 2)",
                "member D 0 1; member D 1 1; member D -1 1; at D 2; pattern D 2 1; rule 1; pattern D 2 0; rule 2",
                "winner = 0",
                "pattern D 1 2; rule 3; winner = 2; pattern D 2 1; rule 4; winner = 2; dropRule 2; winner = 2",
                "move D 1 -1",
                "winner = 2; dropRule 2; winner = 0; move D 0 3; winner = 0");
        STORY.says("the sum over the dimensions", "member 0 0 1; member 0 1 1; member 1 0 1; member 1 1 1",
                "pattern 0 2 1; pattern 1 2 1",
                "rule 1; pattern 0 1 2; pattern 1 2 0; rule 2; go 2 2 0; winner = 1; pattern 0 1 2; pattern 1 2 1",
                "rule 3; winner = 2",
                "pattern 0 2 0; pattern 1 1 2; rule 4; winner = 2; pattern 1 1 2; pattern 2 1 0; rule 5; winner = 2",
                "dropRule 2 = 4; winner = 3; move 1 2 0; winner = 1; move 1 1 2; winner = 3");
        STORY.says("a pattern 0 has no depth", "member 0 0 1; pattern 0 1 1; pattern 0 0 1; rule 1; go 1 0 0; rule 2",
                "winner = 1");
        STORY.says("of several, the latest", "rule 1; rule 2; winner = 1; pattern 0 1 0; rule 3; pattern 1 1 0",
                "rule 4; winner = 3",
                "pattern 2 2 0; rule 5; winner = 4; dropRule 4; winner = 3; dropRule 3; winner = 2; dropRule 2",
                "winner = 1");
        STORY.says("(whether it has an input or not); -1 if there is none", "put 0 5; winner = -1; rule 1",
                "winner = 0; erase 0",
                "winner = 0; dropRule 0; winner = -1; member 0 0 1; winner = -1; rule 7; winner = 0");
        STORY.says("NoSuchElementException: no cell", "rule 7; put 0 5; go 1 0 0; winner ! none; go 0 5 0",
                "winner ! none; go 0 0 1",
                "winner ! none; go 0 0 0; winner = 0");
    }
}
