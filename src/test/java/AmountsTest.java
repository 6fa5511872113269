/** Promises 12 (state), 13 (value), 14 (shown), 15 (steps) and 16 (fuel), and what a cell is. */
public final class AmountsTest {
    private static final Check CHECK = new Check("amounts");

    public static void main(String[] args) {
        numbersAreShown();
        statesAreShown();
        arithmetic();
        overflows();
        faultsGoTheirOrder();
        emptyIsHandedOn();
        conditions();
        shifts();
        shiftsToNoCell();
        sumsOverChildren();
        rolls();
        member0IsAChild();
        rollsGoAlongTheFirstInnerDimension();
        rollsOfSeveral();
        rings();
        stepsAreCounted();
        fuelIsKept();
        cellsAreTwentyDeep();
        rollsCountForTheDepth();
        whatIsRefusedLeavesNoTrace();
        lookingIsRefused();
        CHECK.end();
    }

    private static String number(int v) {
        ModelSheet sheet = new ModelSheet();
        sheet.put(0, v);
        return Check.text(sheet, 0);
    }

    private static void numbersAreShown() {
        int[] numbers = {0, 1, 10, 100, 1000, 1500, 1050, 1005, 1230, 12000, -1, -10, -999, -1000, -10001,
            2000000000, -2000000000, 1999999999, 120, 10010};
        String[] texts = {"0", "0.001", "0.01", "0.1", "1", "1.5", "1.05", "1.005", "1.23", "12", "-0.001",
            "-0.01", "-0.999", "-1", "-10.001", "2000000", "-2000000", "1999999.999", "0.12", "10.01"};
        for (int i = 0; i < numbers.length; i++) {
            CHECK.same("text of " + numbers[i], texts[i], number(numbers[i]));
        }
        ModelSheet sheet = new ModelSheet();
        sheet.put(0, -1500);
        int[] codes = {-1, '-', '1', '.', '5', -1, -1};
        for (int k = -1; k < 6; k++) {
            CHECK.same("character " + k, codes[k + 1], sheet.shown(0, k));
        }
        CHECK.same("far ahead", -1, sheet.shown(0, Integer.MIN_VALUE));
        CHECK.same("far behind", -1, sheet.shown(0, Integer.MAX_VALUE));
        CHECK.same("its state", ModelSheet.NUMBER, sheet.state(0));
        CHECK.same("its value", -1500, sheet.value(0));
    }

    private static void is(String formula, int state, int value, String text) {
        ModelSheet sheet = new ModelSheet();
        CHECK.same("rule " + formula, 0, Check.rule(sheet, formula));
        CHECK.same("state of " + formula, state, sheet.state(0));
        CHECK.same("value of " + formula, value, sheet.value(0));
        CHECK.same("text of " + formula, text, Check.text(sheet, 0));
    }

    private static void is(String formula, int value) {
        is(formula, ModelSheet.NUMBER, value, number(value));
    }

    private static void statesAreShown() {
        ModelSheet sheet = new ModelSheet();
        CHECK.same("state", ModelSheet.EMPTY, sheet.state(0));
        CHECK.same("value", 0, sheet.value(0));
        CHECK.same("text", "empty", Check.text(sheet, 0));
        CHECK.same("first", (int) 'e', sheet.shown(0, 0));
        CHECK.same("behind it", -1, sheet.shown(0, 5));
        is("x0", ModelSheet.RING, 0, "ring");
        is("99999*99999", ModelSheet.OVERFLOW, 0, "over");
        is("1/0", ModelSheet.DIVISION, 0, "div");
        is("x1", ModelSheet.EMPTY, 0, "empty");
    }

    private static void arithmetic() {
        is("7", 7000);
        is("00012", 12000);
        is("99999", 99999000);
        is("1+2-5", -2000);
        is("1-2-3", -4000);
        is("1-(2-3)", 2000);
        is("2+3*4", 14000);
        is("(2+3)*4", 20000);
        is("12/2/3", 2000);
        is("12/(2/3)", 17991);
        is("2*3/4", 1500);
        is("2/3", 667);
        is("1/3", 333);
        is("1/8", 125);
        is("1/16", 63);
        is("(0-1)/16", -63);
        is("1/(0-16)", -63);
        is("(0-1)/(0-16)", 63);
        is("1/2000", 1);
        is("1/2001", 0);
        is("(0-1)/2000", -1);
        is("3/2000*1", 2);
        is("1/8*(1/250)", 1);
        is("1/8*(3/1000)", 0);
        is("1/8*(0-1/250)", -1);
        is("1/2*(1/1000)", 1);
        is("1/2*(0-1/1000)", -1);
        is("1/4*(1/1000)", 0);
        is("7-0*9", 7000);
        is("1/(1/1000)/1000", 1000);
        is("((1))+((2))", 3000);
        is("1+1+1+1+1+1+1+1+1+1+1+x1", 11000);
        is("1+2*(3+4*(5+6*(7+8*9)))", 3839000);
    }

    private static void overflows() {
        is("20000*100", 2000000000);
        is("20000*(0-100)", -2000000000);
        is("20000*100+1", ModelSheet.OVERFLOW, 0, "over");
        is("20000*100+1/1000", ModelSheet.OVERFLOW, 0, "over");
        is("20000*100+1-1", ModelSheet.OVERFLOW, 0, "over");
        is("20000*100-1+1", 2000000000);
        is("0-20000*100-1/1000", ModelSheet.OVERFLOW, 0, "over");
        is("20000*101/2", ModelSheet.OVERFLOW, 0, "over");
        is("20000/2*101", 1010000000);
        is("20000/(1/100)", 2000000000);
        is("20001/(1/100)", ModelSheet.OVERFLOW, 0, "over");
        is("19999/(1/100)*0", 0);
        is("99999*99999*0", ModelSheet.OVERFLOW, 0, "over");
        is("20000*100*(20000*100)", ModelSheet.OVERFLOW, 0, "over");
        is("20000*100/(1/1000)", ModelSheet.OVERFLOW, 0, "over");
    }

    private static void faultsGoTheirOrder() {
        String over = "(99999*99999)";
        is("x0+" + over, ModelSheet.RING, 0, "ring");
        is(over + "-x0", ModelSheet.RING, 0, "ring");
        is("1/0*x0", ModelSheet.RING, 0, "ring");
        is("x0/0", ModelSheet.RING, 0, "ring");
        is(over + "+1/0", ModelSheet.OVERFLOW, 0, "over");
        is("1/0+" + over, ModelSheet.OVERFLOW, 0, "over");
        is(over + "/0", ModelSheet.OVERFLOW, 0, "over");
        is("1/0-1/0", ModelSheet.DIVISION, 0, "div");
        is("1/0*0", ModelSheet.DIVISION, 0, "div");
        is("0/0", ModelSheet.DIVISION, 0, "div");
        is("3+1/0", ModelSheet.DIVISION, 0, "div");
        is("1/0/0", ModelSheet.DIVISION, 0, "div");
        is("1/(1/0)", ModelSheet.DIVISION, 0, "div");
        is("1/x1", ModelSheet.DIVISION, 0, "div");
        is("x1+x0", ModelSheet.RING, 0, "ring");
        is("x0-x1", ModelSheet.RING, 0, "ring");
        is("x1*(1/0)", ModelSheet.DIVISION, 0, "div");
        is("1/0-x1", ModelSheet.DIVISION, 0, "div");
    }

    private static void emptyIsHandedOn() {
        is("x1", ModelSheet.EMPTY, 0, "empty");
        is("((x1))", ModelSheet.EMPTY, 0, "empty");
        is("1?x1:2", ModelSheet.EMPTY, 0, "empty");
        is("0?2:(x1)", ModelSheet.EMPTY, 0, "empty");
        is("x1?1:y1", ModelSheet.EMPTY, 0, "empty");
        is("x1+x1", 0);
        is("x1-x1", 0);
        is("x1*x1", 0);
        is("x1/1", 0);
        is("x1*1", 0);
        is("x1+7", 7000);
        is("7-(x1)", 7000);
        is("(1?x1:2)+3", 3000);
    }

    private static void conditions() {
        is("1?2:3", 2000);
        is("0?2:3", 3000);
        is("0-1?2:3", 3000);
        is("1/1000?2:3", 2000);
        is("0-1/1000?2:3", 3000);
        is("x1?2:3", 3000);
        is("x0?2:3", ModelSheet.RING, 0, "ring");
        is("1/0?2:3", ModelSheet.DIVISION, 0, "div");
        is("99999*99999?2:3", ModelSheet.OVERFLOW, 0, "over");
        is("(1/0?1:2)+x0", ModelSheet.RING, 0, "ring");
        is("(1/0?1:y1)*2+x0", ModelSheet.RING, 0, "ring");
        is("(1/0?x0:y1)*2+7", ModelSheet.DIVISION, 0, "div");
        is("1?2:1/0", 2000);
        is("1?1/0:2", ModelSheet.DIVISION, 0, "div");
        is("0?1?2:3:0?4:5", 5000);
        is("0?1?2:3:1?4:5", 4000);
        is("1?0?2:3:1?4:5", 3000);
        is("1?1?2:3:1?4:5", 2000);
        is("1/0?1?2:3:4", ModelSheet.DIVISION, 0, "div");
        is("2*(1?1/0?2:3:4)+5", ModelSheet.DIVISION, 0, "div");
        is("1+(1?2:3)*(0?4:5)", 11000);
        is("1+(x0?2:3)*(0?4:5)", ModelSheet.RING, 0, "ring");
        is("1?2:3+4", 2000);
        is("0?2:3+4", 7000);
    }

    /** X: leaves 2 3 1 4 in their order, 0 above 2 and 3; the inputs tell the members apart. */
    private static ModelSheet shifted(int x, String formula) {
        ModelSheet sheet = new ModelSheet();
        sheet.member(0, -1, 1);
        sheet.member(0, 0, 1);
        sheet.member(0, 0, 1);
        sheet.member(0, -1, 1);
        for (int m = 1; m < 5; m++) {
            if (m != x) {
                Check.put(sheet, m, 0, 0, 0, m * 1000);
            }
        }
        sheet.pattern(0, Check.JUST, x);
        CHECK.same("rule " + formula, 0, Check.rule(sheet, formula));
        Check.go(sheet, x, 0, 0);
        return sheet;
    }

    private static void shift(int x, String formula, String want) {
        CHECK.same(formula + " from " + x, want, Check.text(shifted(x, formula), 0));
    }

    private static void shifts() {
        shift(1, "x<", "3");
        shift(1, "x>", "4");
        shift(3, "x<", "2");
        shift(3, "x>", "1");
        shift(2, "x<", "empty");
        shift(4, "x>", "empty");
        shift(0, "x<", "empty");
        shift(0, "x>", "empty");
        shift(1, "x<x<", "2");
        shift(1, "x<x>", "ring");
        shift(2, "x^", "ring");
        shift(4, "x^", "empty");
        shift(4, "x2x^", "5");
        shift(4, "x2x^x3", "3");
        shift(4, "x0x>", "empty");
        shift(4, "x3x0x<", "empty");
        shift(1, "x2", "2");
        shift(1, "x5", "empty");
        shift(1, "x3+x4", "7");
        shift(1, "x0", "5");
        shift(2, "x1y0z0", "1");
        shift(2, "z0y0x>", "3");
        ModelSheet sheet = new ModelSheet();
        for (int d = 0; d < 3; d++) {
            sheet.member(d, -1, 1);
        }
        for (int cell = 0; cell < 7; cell++) {
            Check.put(sheet, cell / 4, cell / 2 % 2, cell % 2, 0, (cell + 1) * 1000);
        }
        String[] formulas = {"x<", "y<", "z<", "x<y<", "z<x<", "y0z0", "x<y<z<", "x0z0y0"};
        String[] wants = {"4", "6", "7", "2", "3", "5", "1", "1"};
        for (int i = 0; i < 8; i++) {
            Check.rule(sheet, formulas[i]);
            Check.go(sheet, 1, 1, 1);
            CHECK.same("from 1 1 1 " + formulas[i], wants[i], Check.text(sheet, 0));
            sheet.dropRule(0);
        }
    }

    private static void shiftsToNoCell() {
        shift(1, "x5x2", "empty");
        shift(4, "x>x2", "empty");
        shift(4, "x^x$", "empty");
        shift(4, "x5x$", "empty");
        shift(4, "x5x$+1", "1");
        shift(4, "y1", "empty");
        shift(4, "y^x2", "empty");
        CHECK.same("steps of none", "empty/1", Check.look(shifted(4, "x5x2"), 0, 4, 0, 0));
    }

    private static void sumsOverChildren() {
        shift(1, "x0x$", "5");
        shift(1, "x2x$", "0");
        shift(1, "x2x$?1:x2x$", "0");
        shift(2, "x0x$", "ring");
        CHECK.same("number without children", ModelSheet.NUMBER, shifted(1, "x2x$").state(0));
        CHECK.same("steps without children", "0/1", Check.look(shifted(1, "x2x$"), 0, 1, 0, 0));
        CHECK.same("steps of two children", "5/3", Check.look(shifted(1, "x0x$"), 0, 1, 0, 0));
        ModelSheet sheet = new ModelSheet();
        sheet.member(0, -1, 0);
        sheet.member(0, 1, 1);
        sheet.member(0, 1, 1);
        sheet.member(0, 1, 1);
        rule(sheet, 0, "x1x$");
        CHECK.same("empty ones count as 0", "0/4", Check.look(sheet, 0, 0, 0, 0));
        Check.put(sheet, 2, 0, 0, 0, 2000000000);
        Check.put(sheet, 3, 0, 0, 0, 2000000000);
        CHECK.same("too much in the end", "over/4", Check.look(sheet, 0, 0, 0, 0));
        Check.put(sheet, 4, 0, 0, 0, -2000000000);
        CHECK.same("not too much in the end", "2000000/4", Check.look(sheet, 0, 0, 0, 0));
        CHECK.same("whatever the roll is", "empty/1", Check.look(sheet, 0, 1, 0, 0));
    }

    /** X: 0 of a roll above 1, 2 and 3. */
    private static ModelSheet rolled(int roll) {
        ModelSheet sheet = new ModelSheet();
        int top = sheet.member(0, -1, roll);
        for (int i = 0; i < 3; i++) {
            sheet.member(0, top, 0);
        }
        Check.go(sheet, top, 0, 0);
        return sheet;
    }

    private static void roll(int roll, Integer a, Integer b, Integer c, String want) {
        ModelSheet sheet = rolled(roll);
        Integer[] inputs = {a, b, c};
        for (int i = 0; i < 3; i++) {
            if (inputs[i] != null) {
                Check.put(sheet, i + 2, 0, 0, 0, inputs[i]);
            }
        }
        CHECK.same("roll " + roll + " of " + a + ", " + b + ", " + c, want, Check.look(sheet, 0, 1, 0, 0));
    }

    private static void rolls() {
        int most = 2000000000;
        roll(0, 1, 2, 3, "empty/1");
        roll(1, 1, 2, 3, "0.006/4");
        roll(1, null, null, null, "0/4");
        roll(1, null, 5, null, "0.005/4");
        roll(1, most, most, -most, "2000000/4");
        roll(1, most, -most, 1, "0.001/4");
        roll(1, most, 1, null, "over/4");
        roll(1, -most, -1, 1, "-2000000/4");
        roll(1, -most, -1, 0, "over/4");
        roll(2, 1, 2, 3, "0.002/4");
        roll(2, null, null, null, "0/4");
        roll(2, 6, null, null, "0.002/4");
        roll(2, 5, null, null, "0.002/4");
        roll(2, 4, null, null, "0.001/4");
        roll(2, -5, null, null, "-0.002/4");
        roll(2, -4, null, null, "-0.001/4");
        roll(2, most, most, most, "2000000/4");
        roll(2, -most, -most, -most, "-2000000/4");
        roll(3, 1, 2, 3, "0.001/2");
        roll(3, null, 2, 3, "empty/2");
        roll(4, 1, 2, 3, "0.003/2");
        roll(4, 1, 2, null, "empty/2");
        ModelSheet two = new ModelSheet();
        two.member(0, -1, 2);
        two.member(0, 1, 1);
        two.member(0, 1, 1);
        Check.put(two, 2, 0, 0, 0, 1);
        CHECK.same("half a thousandth", "0.001/3", Check.look(two, 0, 1, 0, 0));
        Check.put(two, 2, 0, 0, 0, -1);
        CHECK.same("half a thousandth below 0", "-0.001/3", Check.look(two, 0, 1, 0, 0));
        Check.put(two, 2, 0, 0, 0, -3);
        CHECK.same("one and a half below 0", "-0.002/3", Check.look(two, 0, 1, 0, 0));
    }

    private static void member0IsAChild() {
        String[] wants = {"empty/1", "0.012/4", "0.004/4", "0.001/2", "0.007/2"};
        for (int roll = 0; roll < 5; roll++) {
            ModelSheet sheet = new ModelSheet();
            sheet.member(0, -1, roll);
            sheet.move(0, 0, 1);
            sheet.member(0, 1, 1);
            sheet.member(0, 1, 1);
            Check.put(sheet, 0, 0, 0, 0, 1);
            Check.put(sheet, 2, 0, 0, 0, 4);
            Check.put(sheet, 3, 0, 0, 0, 7);
            CHECK.same("roll " + roll + " over 0, 2 and 3", wants[roll], Check.look(sheet, 0, 1, 0, 0));
        }
    }

    private static void rollsGoAlongTheFirstInnerDimension() {
        ModelSheet sheet = new ModelSheet();
        int[] rolls = {3, 4, 2};
        for (int d = 0; d < 3; d++) {
            int top = sheet.member(d, -1, rolls[d]);
            sheet.member(d, top, 0);
            sheet.member(d, top, 0);
        }
        for (int cell = 0; cell < 8; cell++) {
            Check.put(sheet, 2 + cell / 4, 2 + cell / 2 % 2, 2 + cell % 2, 0, (cell + 1) * 1000);
        }
        CHECK.same("x is inner", "1/2", Check.look(sheet, 0, 1, 2, 2));
        CHECK.same("y is inner", "7/2", Check.look(sheet, 0, 3, 1, 2));
        CHECK.same("z is inner", "5.5/3", Check.look(sheet, 0, 3, 2, 1));
        CHECK.same("x and y", "3/3", Check.look(sheet, 0, 1, 1, 2));
        CHECK.same("x and z", "3.5/4", Check.look(sheet, 0, 1, 3, 1));
        CHECK.same("y and z", "7.5/4", Check.look(sheet, 0, 3, 1, 1));
        CHECK.same("all", "3.5/5", Check.look(sheet, 0, 1, 1, 1));
    }

    private static void rollsOfSeveral() {
        for (int roll = 1; roll <= 2; roll++) {
            ModelSheet sheet = rolled(roll);
            rule(sheet, 2, "1/0");
            CHECK.same("a division", "div/4", Check.look(sheet, 0, 1, 0, 0));
            Check.put(sheet, 4, 0, 0, 0, 2000000000);
            Check.put(sheet, 3, 0, 0, 0, 2000000000);
            CHECK.same("before a great sum", "div/4", Check.look(sheet, 0, 1, 0, 0));
            Check.go(sheet, 3, 0, 0);
            sheet.erase(0);
            rule(sheet, 3, "99999*99999");
            CHECK.same("an overflow", "over/4", Check.look(sheet, 0, 1, 0, 0));
            Check.go(sheet, 4, 0, 0);
            sheet.erase(0);
            rule(sheet, 4, "x1");
            CHECK.same("a ring", "ring/4", Check.look(sheet, 0, 1, 0, 0));
        }
        for (int roll = 1; roll <= 2; roll++) {
            ModelSheet sheet = rolled(roll);
            rule(sheet, 4, "1/0");
            CHECK.same("behind empty ones", "div/4", Check.look(sheet, 0, 1, 0, 0));
            Check.put(sheet, 2, 0, 0, 0, 2000000000);
            Check.put(sheet, 3, 0, 0, 0, 2000000000);
            CHECK.same("behind numbers", "div/4", Check.look(sheet, 0, 1, 0, 0));
        }
        ModelSheet first = rolled(3);
        rule(first, 2, "1/0");
        CHECK.same("roll 3", "div/2", Check.look(first, 0, 1, 0, 0));
        rule(first, 1, "8");
        CHECK.same("a rule before a roll", "8/1", Check.look(first, 0, 1, 0, 0));
    }

    private static void rule(ModelSheet sheet, int x, String formula) {
        sheet.pattern(0, Check.JUST, x);
        CHECK.same("rule " + formula, 0, Check.rule(sheet, formula));
    }

    private static void rings() {
        ModelSheet sheet = new ModelSheet();
        sheet.member(0, -1, 1);
        sheet.member(0, -1, 1);
        rule(sheet, 0, "x1");
        rule(sheet, 1, "x0+1");
        rule(sheet, 2, "x1?5:6");
        CHECK.same("from 0", "ring/2", Check.look(sheet, 0, 0, 0, 0));
        CHECK.same("from 1", "ring/2", Check.look(sheet, 0, 1, 0, 0));
        CHECK.same("into it", "ring/3", Check.look(sheet, 0, 2, 0, 0));
        Check.put(sheet, 1, 0, 0, 0, 4000);
        CHECK.same("cut by an input", "4/2", Check.look(sheet, 0, 0, 0, 0));
        CHECK.same("into that", "5/2", Check.look(sheet, 0, 2, 0, 0));
        ModelSheet twice = new ModelSheet();
        twice.member(0, -1, 1);
        rule(twice, 0, "x1+x1");
        rule(twice, 1, "3");
        CHECK.same("the same cell again is no ring", "6/3", Check.look(twice, 0, 0, 0, 0));
    }

    private static void stepsAreCounted() {
        ModelSheet sheet = new ModelSheet();
        sheet.member(0, -1, 1);
        sheet.member(0, -1, 1);
        CHECK.same("before", 0, sheet.steps());
        sheet.state(0);
        CHECK.same("an empty one", 1, sheet.steps());
        rule(sheet, 0, "x1+x2*x1");
        CHECK.same("each again", "0/4", Check.look(sheet, 0, 0, 0, 0));
        rule(sheet, 0, "x0+x0+x2");
        CHECK.same("both parts, rings are none", "ring/2", Check.look(sheet, 0, 0, 0, 0));
        rule(sheet, 0, "x1?x2:x2x1");
        CHECK.same("the condition and one part", "empty/3", Check.look(sheet, 0, 0, 0, 0));
        rule(sheet, 0, "1/0?x1:x2");
        CHECK.same("a fault chooses none", "div/1", Check.look(sheet, 0, 0, 0, 0));
        rule(sheet, 0, "1/0+x1");
        CHECK.same("a fault first", "div/2", Check.look(sheet, 0, 0, 0, 0));
        sheet.value(0);
        CHECK.same("steps of value", 2, sheet.steps());
        sheet.at(0, 1);
        sheet.shown(0, -1);
        CHECK.same("steps of shown", 1, sheet.steps());
        sheet.at(0, 0);
        sheet.fuel(1);
        CHECK.same("too many", "IllegalStateException", Check.thrown(() -> sheet.state(0)));
        CHECK.same("the steps of the latest that answered", 1, sheet.steps());
        sheet.fuel(2);
        sheet.state(0);
        CHECK.same("just enough", 2, sheet.steps());
        sheet.winner();
        sheet.filled(0);
        CHECK.same("others take none", 2, sheet.steps());
    }

    private static void fuelIsKept() {
        ModelSheet sheet = new ModelSheet();
        CHECK.same("at first", 300, sheet.fuel(1));
        CHECK.same("then", 1, sheet.fuel(2000));
        CHECK.same("the most", 2000, sheet.fuel(2000));
        CHECK.refused("0", Check.ARGUMENT, sheet, () -> sheet.fuel(0));
        CHECK.refused("-1", Check.ARGUMENT, sheet, () -> sheet.fuel(-1));
        CHECK.refused("2001", Check.ARGUMENT, sheet, () -> sheet.fuel(2001));
        for (int d = 0; d < 3; d++) {
            for (int m = 1; m < 6; m++) {
                sheet.member(d, 0, 1);
            }
        }
        sheet.fuel(156);
        CHECK.same("all of 1 + 5 + 25 + 125", "0/156", Check.look(sheet, 0, 0, 0, 0));
        sheet.fuel(155);
        CHECK.refused("one less", Check.STATE, sheet, () -> sheet.state(0));
        CHECK.refused("one less for value", Check.STATE, sheet, () -> sheet.value(0));
        CHECK.refused("one less for shown", Check.STATE, sheet, () -> sheet.shown(0, -1));
        sheet.at(0, 1);
        CHECK.same("and less is enough elsewhere", "0/31", Check.look(sheet, 0, 1, 0, 0));
        sheet.fuel(300);
        sheet.pattern(0, Check.JUST, 0);
        Check.rule(sheet, "x$+x$");
        CHECK.same("more than 300 at first", "0/311", tried(sheet, 311));
        CHECK.same("310 are too few", "IllegalStateException", tried(sheet, 310));
    }

    private static String tried(ModelSheet sheet, int fuel) {
        sheet.fuel(fuel);
        Check.go(sheet, 0, 0, 0);
        String thrown = Check.thrown(() -> sheet.state(0));
        return thrown.equals("nothing") ? Check.text(sheet, 0) + "/" + sheet.steps() : thrown;
    }

    /** A chain along x, then y, then z: each of the 36 cells x y 0 asks for the next one. */
    private static ModelSheet chain() {
        ModelSheet sheet = new ModelSheet();
        for (int m = 1; m < 6; m++) {
            sheet.member(0, -1, 1);
            sheet.member(1, -1, 1);
        }
        Check.rule(sheet, "(((x>)))");
        sheet.pattern(0, Check.JUST, 5);
        Check.rule(sheet, "2+1*(3+1*(1?x0y>*1:1))");
        return sheet;
    }

    private static void cellsAreTwentyDeep() {
        ModelSheet sheet = chain();
        sheet.fuel(2000);
        Check.put(sheet, 1, 3, 0, 0, 7000);
        CHECK.same("twenty deep", "22/20", Check.look(sheet, 0, 0, 0, 0));
        Check.go(sheet, 1, 3, 0);
        sheet.erase(0);
        Check.put(sheet, 2, 3, 0, 0, 7000);
        Check.go(sheet, 0, 0, 0);
        CHECK.refused("one with an input, too deep", Check.STATE, sheet, () -> sheet.state(0));
        CHECK.same("less deep from the next one", "22/20", Check.look(sheet, 0, 1, 0, 0));
        Check.go(sheet, 2, 3, 0);
        sheet.erase(0);
        sheet.pattern(0, Check.JUST, 2);
        sheet.pattern(1, Check.JUST, 3);
        Check.rule(sheet, "x<");
        CHECK.same("a ring is not too deep", "ring/20", Check.look(sheet, 0, 1, 0, 0));
        Check.go(sheet, 0, 0, 0);
        CHECK.refused("a ring behind 21", Check.STATE, sheet, () -> sheet.value(0));
    }

    /** Six members below one another in each dimension; from the only leaf cell, the 16th, back to another. */
    private static ModelSheet stairs(int roll, String formula) {
        ModelSheet sheet = new ModelSheet();
        for (int d = 0; d < 3; d++) {
            sheet.member(d, -1, roll);
            sheet.drop(d, 0);
            sheet.member(d, 1, roll);
            sheet.member(d, 0, roll);
            for (int m = 3; m < 6; m++) {
                sheet.member(d, m - 1, roll);
            }
            sheet.pattern(d, Check.LEAVES, 5);
        }
        CHECK.same("rule " + formula, 0, Check.rule(sheet, formula));
        Check.go(sheet, 1, 1, 1);
        return sheet;
    }

    private static void rollsCountForTheDepth() {
        for (int roll = 1; roll <= 4; roll++) {
            CHECK.same("16 deep", "7/16", Check.look(stairs(roll, "7"), 0, 1, 1, 1));
            CHECK.same("20 deep, a ring", "ring/20", Check.look(stairs(roll, "x2y4"), 0, 1, 1, 1));
            ModelSheet deeper = stairs(roll, "x0y4");
            CHECK.refused("21 deep", Check.STATE, deeper, () -> deeper.value(0));
            ModelSheet sums = stairs(roll, "x2y4x$");
            CHECK.same("a sum is no cell", "ring/19", Check.look(sums, 0, 1, 1, 1));
            ModelSheet deepSums = stairs(roll, "x1y4x$");
            CHECK.refused("21 deep by a sum", Check.STATE, deepSums, () -> deepSums.value(0));
        }
    }

    private static void whatIsRefusedLeavesNoTrace() {
        ModelSheet sheet = chain();
        for (int i = 0; i < 400; i++) {
            Check.thrown(() -> sheet.state(0));
        }
        Check.put(sheet, 3, 0, 0, 0, 7000);
        CHECK.same("behind many that were too deep", "7/4", Check.look(sheet, 0, 0, 0, 0));
        Check.put(sheet, 2, 3, 0, 0, 5000);
        CHECK.same("with rules that wait", "15/15", Check.look(sheet, 0, 0, 1, 0));
    }

    private static void lookingIsRefused() {
        ModelSheet sheet = new ModelSheet();
        sheet.put(0, 3);
        CHECK.refused("state of layer 1", Check.NO_SUCH, sheet, () -> sheet.state(1));
        CHECK.refused("value of layer 1", Check.NO_SUCH, sheet, () -> sheet.value(1));
        CHECK.refused("shown of layer 1", Check.NO_SUCH, sheet, () -> sheet.shown(1, 0));
        CHECK.refused("state of layer -1", Check.NO_SUCH, sheet, () -> sheet.state(-1));
        CHECK.refused("value of layer -1", Check.NO_SUCH, sheet, () -> sheet.value(-1));
        CHECK.refused("shown of layer -1", Check.NO_SUCH, sheet, () -> sheet.shown(-1, -1));
        sheet.at(2, 1);
        CHECK.refused("state of no cell", Check.NO_SUCH, sheet, () -> sheet.state(0));
        CHECK.refused("value of no cell", Check.NO_SUCH, sheet, () -> sheet.value(0));
        CHECK.refused("shown of no cell", Check.NO_SUCH, sheet, () -> sheet.shown(0, -1));
    }
}
