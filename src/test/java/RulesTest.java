/** Promises 6 (pattern), 7 (type), 8 (rule), 9 (dropRule) and 17 (winner). */
public final class RulesTest {
    private static final Check CHECK = new Check("rules");

    public static void main(String[] args) {
        typeTakesWhatStandsInFormulas();
        faultsAreTold();
        formulasAreTaken();
        padAndPatternsAreEmptyBehindRule();
        thereAreEightRules();
        patternsFit();
        patternsAreRefused();
        theMostSpecialRuleWins();
        rulesGo();
        winnerIsRefused();
        CHECK.end();
    }

    private static void typeTakesWhatStandsInFormulas() {
        String signs = "0123456789+-*/?:()xyz<>^$";
        ModelSheet fresh = new ModelSheet();
        for (int c = 0; c <= Character.MAX_VALUE; c++) {
            if (c < 256 || c % 256 == 0) {
                fresh = new ModelSheet();
            }
            boolean good = signs.indexOf((char) c) >= 0;
            CHECK.same("type " + c, good, fresh.type((char) c));
            CHECK.same("pad behind " + c, good ? 1 : 0, fresh.count(8));
        }
        ModelSheet sheet = new ModelSheet();
        for (int i = 0; i < 24; i++) {
            CHECK.same("character " + i, true, sheet.type('7'));
        }
        CHECK.same("a 25th", false, sheet.type('7'));
        CHECK.same("a wrong 25th", false, sheet.type('a'));
        CHECK.same("24 are there", 24, sheet.count(8));
    }

    private static void fault(String text, int want) {
        ModelSheet sheet = new ModelSheet();
        sheet.put(0, 4);
        CHECK.same("fault of " + text, want, Check.rule(sheet, text));
        CHECK.same("no rule of " + text, 0, sheet.count(3));
        CHECK.same("the edit stays behind " + text, 1, sheet.count(6));
        CHECK.same("the pad is empty behind " + text, 0, sheet.count(8));
    }

    private static void faultsAreTold() {
        String[] wrongs = {
            "0 ", "0 +1", "0 -1", "0 )", "0 ?", "0 <", "0 $", "0 ^", "0 :",
            "1 1)", "2 1+*2", "1 1(", "1 1x0", "1 ()", "3 1+1$", "1 5:", "4 9?9+", "3 (1)2", "3 (1)x0",
            "2 x0(", "2 x05", "1 x6", "1 xy", "1 x+", "2 x$y0", "2 x$x", "4 x0y$z1", "2 x$3", "2 x^1",
            "5 123456", "5 000001", "5 111111111111111111111111",
            "2 (1:2)", "1 1:2", "5 1?2:3:4", "4 1?(2:3)", "3 1?2)", "4 (1?2):3", "6 1?2+(3:4)", "5 1?2:3)",
            "9 1?2+(3):4)", "9 1?2:3?4:5:6", "3 1?2(", "2 1?:2", "4 1?2:?", "7 (1?2:3))", "3 (1):2",
            "3 ((((1))))", "7 1?2?3?4?5:6:7:8", "13 1?2:3?4:5?6:7?8:9", "5 (1?(2?3:4):5)",
            "5 1?(1?(1):3:4", "4 (((1?2:3)))", "7 1?2:((1?2:3):4)", "7 1?2:(3?(4):5)",
            "2 1+", "1 x", "3 x<y", "3 1?2", "4 1?2:", "2 (1", "4 (1?2", "6 1?2:(3", "2 7/", "3 (x$",
            "24 1+1+1+1+1+1+1+1+1+1+1+1+", "23 1+1+1+1+1+1+1+1+1+1+1+x"};
        for (String wrong : wrongs) {
            int cut = wrong.indexOf(' ');
            fault(wrong.substring(cut + 1), Integer.parseInt(wrong.substring(0, cut)) + 1);
        }
    }

    private static void formulasAreTaken() {
        String[] good = {"0", "99999", "00012", "x0", "x5y4z3", "x<y>z^", "x0x0x0", "x$", "x^x$", "z<z$",
            "(((1)))", "1?2?3?4:5:6:7", "1?2:3?4:5?6:7", "1?(2?3:4):5", "1?(2):3", "1?2:(3?4:5)", "((1)?2:3)",
            "1+2-3*4/5", "(x0)+(y$)*2", "1?2+(3):4", "(1?2:3)?4:5", "1?2?3:4:5",
            "x0x0x0x0x0x0x0x0x0x0x0x0", "1+1+1+1+1+1+1+1+1+1+1+12", "(1)*(2)", "x$+y$-z$"};
        for (String text : good) {
            ModelSheet sheet = new ModelSheet();
            sheet.put(0, 4);
            CHECK.same("rule of " + text, 0, Check.rule(sheet, text));
            CHECK.same("one rule", 1, sheet.count(3));
            CHECK.same("edits are forgotten", 0, sheet.count(6));
            CHECK.same("the pad is empty", 0, sheet.count(8));
        }
    }

    private static void padAndPatternsAreEmptyBehindRule() {
        ModelSheet sheet = new ModelSheet();
        sheet.member(0, -1, 1);
        sheet.pattern(0, Check.JUST, 1);
        CHECK.same("a fault", 2, Check.rule(sheet, "1)"));
        CHECK.same("a rule behind it", 0, Check.rule(sheet, "2"));
        CHECK.same("it fits any", "2/1", Check.look(sheet, 0, 0, 0, 0));
        sheet.pattern(0, Check.JUST, 1);
        CHECK.same("a rule with a pattern", 0, Check.rule(sheet, "3"));
        CHECK.same("it fits not", "2/1", Check.look(sheet, 0, 0, 0, 0));
        CHECK.same("it fits", "3/1", Check.look(sheet, 0, 1, 0, 0));
        CHECK.same("a rule without again", 0, Check.rule(sheet, "4"));
        CHECK.same("the latest of those without", "4/1", Check.look(sheet, 0, 0, 0, 0));
    }

    private static void thereAreEightRules() {
        ModelSheet sheet = new ModelSheet();
        sheet.member(1, -1, 1);
        for (int i = 1; i <= 8; i++) {
            CHECK.same("rule " + i, 0, Check.rule(sheet, "" + i));
            CHECK.same("rules " + i, i, sheet.count(3));
        }
        sheet.put(0, 1);
        Check.write(sheet, "9");
        sheet.pattern(1, Check.JUST, 1);
        CHECK.refused("a ninth", Check.STATE, sheet, sheet::rule);
        CHECK.same("the pad stays", 1, sheet.count(8));
        CHECK.same("dropRule", 7, sheet.dropRule(0));
        CHECK.same("the same text is a rule now", 0, sheet.rule());
        CHECK.same("with its pattern", "9/1", Check.look(sheet, 0, 0, 1, 0));
        sheet.erase(0);
        Check.go(sheet, 0, 0, 0);
        CHECK.same("which fits not all", 6, sheet.winner());
    }

    private static void patternsFit() {
        ModelSheet sheet = new ModelSheet();
        sheet.member(0, 0, 1);
        sheet.member(0, 1, 1);
        sheet.member(0, 0, 1);
        sheet.member(0, -1, 1);
        sheet.pattern(0, Check.LEAVES, 1);
        Check.rule(sheet, "1");
        String wins = "";
        for (int x = 0; x < 5; x++) {
            Check.go(sheet, x, 0, 0);
            wins += sheet.winner();
        }
        CHECK.same("leaves at or below 1", "-1-10-1-1", wins);
        sheet.dropRule(0);
        sheet.pattern(0, Check.LEAVES, 4);
        Check.rule(sheet, "1");
        Check.go(sheet, 4, 0, 0);
        CHECK.same("a leaf itself", 0, sheet.winner());
        sheet.dropRule(0);
        sheet.pattern(0, Check.JUST, 0);
        Check.rule(sheet, "1");
        wins = "";
        for (int x = 0; x < 5; x++) {
            Check.go(sheet, x, 0, 0);
            wins += sheet.winner();
        }
        CHECK.same("just 0, an inner one", "0-1-1-1-1", wins);
        sheet.pattern(0, Check.JUST, 2);
        sheet.pattern(0, 0, 77);
        Check.rule(sheet, "2");
        CHECK.same("a pattern can be taken back", 1, sheet.winner());
        sheet.pattern(0, Check.JUST, 4);
        sheet.pattern(0, Check.JUST, 2);
        Check.rule(sheet, "3");
        Check.go(sheet, 2, 0, 0);
        CHECK.same("the latest pattern counts", 2, sheet.winner());
    }

    private static void patternsAreRefused() {
        ModelSheet sheet = new ModelSheet();
        sheet.pattern(0, Check.JUST, 0);
        CHECK.refused("dimension 3", Check.NO_SUCH, sheet, () -> sheet.pattern(3, 0, 0));
        CHECK.refused("dimension 3, kind 9", Check.NO_SUCH, sheet, () -> sheet.pattern(3, 9, 0));
        CHECK.refused("dimension -1", Check.NO_SUCH, sheet, () -> sheet.pattern(-1, 0, 0));
        CHECK.refused("kind 1, member 1", Check.NO_SUCH, sheet, () -> sheet.pattern(0, 1, 1));
        CHECK.refused("kind 2, member 6", Check.NO_SUCH, sheet, () -> sheet.pattern(0, 2, 6));
        CHECK.refused("kind 2, member -1", Check.NO_SUCH, sheet, () -> sheet.pattern(0, 2, -1));
        CHECK.refused("kind 3", Check.ARGUMENT, sheet, () -> sheet.pattern(0, 3, 0));
        CHECK.refused("kind 3, member 9", Check.ARGUMENT, sheet, () -> sheet.pattern(0, 3, 9));
        CHECK.refused("kind -1", Check.ARGUMENT, sheet, () -> sheet.pattern(0, -1, 0));
        Check.rule(sheet, "1");
        sheet.member(0, -1, 1);
        Check.go(sheet, 1, 0, 0);
        CHECK.same("the pattern stayed just 0", -1, sheet.winner());
    }

    private static int special(ModelSheet sheet, int x, int y, int z, int kind, String text) {
        int[] members = {x, y, z};
        for (int d = 0; d < 3; d++) {
            if (members[d] >= 0) {
                sheet.pattern(d, kind, members[d]);
            }
        }
        return Check.rule(sheet, text);
    }

    private static void theMostSpecialRuleWins() {
        ModelSheet sheet = new ModelSheet();
        for (int d = 0; d < 3; d++) {
            sheet.member(d, 0, 1);
            sheet.member(d, 1, 1);
        }
        special(sheet, 2, -1, -1, Check.JUST, "1");
        special(sheet, -1, -1, -1, 0, "2");
        Check.go(sheet, 2, 2, 2);
        CHECK.same("one pattern before none", 0, sheet.winner());
        special(sheet, 1, 0, -1, Check.LEAVES, "3");
        CHECK.same("two before one that is deeper", 2, sheet.winner());
        special(sheet, -1, 0, 0, Check.LEAVES, "4");
        CHECK.same("the deeper one of two", 2, sheet.winner());
        special(sheet, -1, 1, 0, Check.LEAVES, "5");
        CHECK.same("the latest of two as deep", 4, sheet.winner());
        special(sheet, 0, 2, -1, Check.LEAVES, "6");
        CHECK.same("just and leaves count alike", 5, sheet.winner());
        special(sheet, 0, 0, 0, Check.LEAVES, "7");
        CHECK.same("three, however deep", 6, sheet.winner());
        sheet.put(0, 1);
        CHECK.same("with an input, too", 6, sheet.winner());
        Check.go(sheet, 0, 0, 0);
        CHECK.same("an inner cell", 1, sheet.winner());
        sheet.dropRule(6);
        sheet.move(2, 1, -1);
        sheet.move(1, 2, 0);
        sheet.move(0, 2, -1);
        Check.go(sheet, 2, 2, 2);
        CHECK.same("depths and places as they are then", 0, sheet.winner());
    }

    private static void rulesGo() {
        ModelSheet sheet = new ModelSheet();
        sheet.put(0, 1);
        sheet.erase(0);
        CHECK.refused("no rule 0", Check.NO_SUCH, sheet, () -> sheet.dropRule(0));
        Check.rule(sheet, "1");
        Check.rule(sheet, "2");
        Check.rule(sheet, "3");
        CHECK.same("the latest", "3/1", Check.look(sheet, 0, 0, 0, 0));
        sheet.put(0, 1);
        CHECK.refused("no rule 3", Check.NO_SUCH, sheet, () -> sheet.dropRule(3));
        CHECK.refused("no rule -1", Check.NO_SUCH, sheet, () -> sheet.dropRule(-1));
        sheet.erase(0);
        CHECK.same("the middle one goes", 2, sheet.dropRule(1));
        CHECK.same("edits are forgotten", 0, sheet.count(6));
        CHECK.same("one number less", 1, sheet.winner());
        CHECK.same("the same one", "3/1", Check.look(sheet, 0, 0, 0, 0));
        CHECK.same("the last one goes", 1, sheet.dropRule(1));
        CHECK.same("the first one is left", "1/1", Check.look(sheet, 0, 0, 0, 0));
        Check.rule(sheet, "4");
        CHECK.same("a new one comes behind", "4/1", Check.look(sheet, 0, 0, 0, 0));
        CHECK.same("the first one goes", 1, sheet.dropRule(0));
        CHECK.same("and the last", 0, sheet.dropRule(0));
        CHECK.same("none wins", -1, sheet.winner());
    }

    private static void winnerIsRefused() {
        ModelSheet sheet = new ModelSheet();
        Check.rule(sheet, "1");
        Check.go(sheet, 0, 0, 3);
        CHECK.refused("no cell", Check.NO_SUCH, sheet, sheet::winner);
    }
}
