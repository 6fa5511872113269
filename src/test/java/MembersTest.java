/** Promises 1 (a new object), 2 (member), 3 (move), 4 (drop) and 24 (about). */
public final class MembersTest {
    private static final Check CHECK = new Check("members");

    public static void main(String[] args) {
        aNewSheetHasOneMemberInEachDimension();
        membersTakeTheLeastNumber();
        membersAreRefused();
        movesChangeDepthsAndOrder();
        movesAreRefused();
        sixMembersBelowOneAnother();
        leavesFollowTheWalk();
        dropTakesInputsAlong();
        dropChangesTheLeaves();
        dropClearsTheNextPattern();
        dropIsRefused();
        allMembersOfADimensionCanGo();
        unseenInputsStay();
        aboutIsRefused();
        CHECK.end();
    }

    private static String about(ModelSheet sheet, int d, int m) {
        return sheet.about(d, m, 0) + "," + sheet.about(d, m, 1) + "," + sheet.about(d, m, 2) + ","
                + sheet.about(d, m, 3);
    }

    private static void aNewSheetHasOneMemberInEachDimension() {
        ModelSheet sheet = new ModelSheet();
        for (int d = 0; d < 3; d++) {
            CHECK.same("members of " + d, 1, sheet.count(d));
            CHECK.same("member 0 of " + d, "-1,1,0,0", about(sheet, d, 0));
            CHECK.same("cursor in " + d, 0, sheet.at(d, 0));
        }
        int[] counts = {1, 1, 1, 0, 1, 0, 0, 0, 0};
        for (int what = 0; what <= 8; what++) {
            CHECK.same("count " + what, counts[what], sheet.count(what));
        }
        CHECK.same("fuel", 300, sheet.fuel(300));
        CHECK.same("steps", 0, sheet.steps());
        CHECK.same("its cell", ModelSheet.EMPTY, sheet.state(0));
        CHECK.same("its winner", -1, sheet.winner());
        CHECK.same("filled", 0f, sheet.filled(0));
    }

    private static void membersTakeTheLeastNumber() {
        ModelSheet sheet = new ModelSheet();
        for (int m = 1; m < 6; m++) {
            CHECK.same("member " + m, m, sheet.member(1, m == 3 ? -1 : 0, m - 1));
        }
        CHECK.same("member 3", "-1,2,0,4", about(sheet, 1, 3));
        CHECK.same("member 5", "0,4,1,3", about(sheet, 1, 5));
        CHECK.same("the others stay", 1, sheet.count(0));
        sheet.drop(1, 4);
        sheet.drop(1, 2);
        CHECK.same("four are left", 4, sheet.count(1));
        CHECK.same("the least first", 2, sheet.member(1, 3, 0));
        CHECK.same("below 3", "3,0,1,2", about(sheet, 1, 2));
        CHECK.same("then the next", 4, sheet.member(1, 2, 4));
        CHECK.same("below 2", "2,4,2,2", about(sheet, 1, 4));
    }

    private static void membersAreRefused() {
        ModelSheet sheet = new ModelSheet();
        sheet.put(0, 5);
        CHECK.refused("dimension 3", Check.NO_SUCH, sheet, () -> sheet.member(3, -1, 9));
        CHECK.refused("dimension -1", Check.NO_SUCH, sheet, () -> sheet.member(-1, -1, 1));
        CHECK.refused("parent 1", Check.NO_SUCH, sheet, () -> sheet.member(0, 1, 9));
        CHECK.refused("parent 6", Check.NO_SUCH, sheet, () -> sheet.member(0, 6, 1));
        CHECK.refused("parent -2", Check.NO_SUCH, sheet, () -> sheet.member(0, -2, 1));
        CHECK.refused("roll 5", Check.ARGUMENT, sheet, () -> sheet.member(0, -1, 5));
        CHECK.refused("roll -1", Check.ARGUMENT, sheet, () -> sheet.member(0, 0, -1));
        for (int m = 1; m < 6; m++) {
            sheet.member(2, -1, 0);
        }
        CHECK.refused("a seventh", Check.STATE, sheet, () -> sheet.member(2, 0, 0));
        CHECK.refused("a seventh, roll 5", Check.ARGUMENT, sheet, () -> sheet.member(2, 0, 5));
        CHECK.refused("a seventh, parent 6", Check.NO_SUCH, sheet, () -> sheet.member(2, 6, 5));
    }

    private static void movesChangeDepthsAndOrder() {
        ModelSheet sheet = new ModelSheet();
        sheet.member(0, 0, 1);
        sheet.member(0, 1, 2);
        sheet.member(0, -1, 1);
        CHECK.same("depth of 2", 2, sheet.about(0, 2, 2));
        CHECK.same("move 1 below 3", 1, sheet.move(0, 1, 3));
        CHECK.same("0 is a leaf again", "-1,1,0,0", about(sheet, 0, 0));
        CHECK.same("3 is none", "-1,1,0,-1", about(sheet, 0, 3));
        CHECK.same("2 came along", "1,2,2,1", about(sheet, 0, 2));
        CHECK.same("move 2 below 0", 1, sheet.move(0, 2, 0));
        CHECK.same("move 2 to where it is", 1, sheet.move(0, 2, 0));
        CHECK.same("move 2 to the roots", 0, sheet.move(0, 2, -1));
        CHECK.same("move 3 below 2", 1, sheet.move(0, 3, 2));
        CHECK.same("1 came along", "3,1,2,1", about(sheet, 0, 1));
    }

    private static void movesAreRefused() {
        ModelSheet sheet = new ModelSheet();
        sheet.member(0, 0, 1);
        sheet.member(0, 1, 1);
        Check.put(sheet, 2, 0, 0, 0, 7);
        CHECK.refused("dimension 3", Check.NO_SUCH, sheet, () -> sheet.move(3, 0, 0));
        CHECK.refused("member 3", Check.NO_SUCH, sheet, () -> sheet.move(0, 3, 3));
        CHECK.refused("member -1", Check.NO_SUCH, sheet, () -> sheet.move(0, -1, 0));
        CHECK.refused("parent 3", Check.NO_SUCH, sheet, () -> sheet.move(0, 0, 3));
        CHECK.refused("parent -2", Check.NO_SUCH, sheet, () -> sheet.move(0, 0, -2));
        CHECK.refused("below itself", Check.ARGUMENT, sheet, () -> sheet.move(0, 2, 2));
        CHECK.refused("below its child", Check.ARGUMENT, sheet, () -> sheet.move(0, 1, 2));
        CHECK.refused("below its grandchild", Check.ARGUMENT, sheet, () -> sheet.move(0, 0, 2));
    }

    private static void sixMembersBelowOneAnother() {
        ModelSheet sheet = new ModelSheet();
        for (int m = 1; m < 6; m++) {
            sheet.member(1, m - 1, 1);
        }
        CHECK.same("the deepest", 5, sheet.about(1, 5, 2));
        for (int m = 0; m < 6; m++) {
            int parent = m;
            CHECK.refused("0 below " + m, Check.ARGUMENT, sheet, () -> sheet.move(1, 0, parent));
        }
        CHECK.same("3 is a root", 0, sheet.move(1, 3, -1));
        CHECK.same("0 below the deepest", 3, sheet.move(1, 0, 5));
        CHECK.same("2 is the only leaf", "1,1,5,0", about(sheet, 1, 2));
    }

    private static void leavesFollowTheWalk() {
        ModelSheet sheet = new ModelSheet();
        sheet.member(2, -1, 1);
        sheet.member(2, 1, 1);
        sheet.member(2, 0, 1);
        sheet.member(2, 1, 1);
        sheet.member(2, 0, 1);
        int[] places = {-1, -1, 2, 0, 3, 1};
        for (int m = 0; m < 6; m++) {
            CHECK.same("place of " + m, places[m], sheet.about(2, m, 3));
        }
        sheet.move(2, 0, 2);
        int[] later = {-1, -1, -1, 0, 2, 1};
        for (int m = 0; m < 6; m++) {
            CHECK.same("place of " + m + " then", later[m], sheet.about(2, m, 3));
        }
        CHECK.same("depth of 5", 3, sheet.about(2, 5, 2));
    }

    private static void dropTakesInputsAlong() {
        ModelSheet sheet = new ModelSheet();
        sheet.member(0, -1, 1);
        sheet.member(1, -1, 1);
        sheet.layer();
        Check.put(sheet, 1, 0, 0, 0, 1);
        Check.put(sheet, 1, 1, 0, 0, 2);
        Check.put(sheet, 1, 1, 0, 1, 3);
        Check.put(sheet, 0, 1, 0, 1, 4);
        CHECK.same("inputs", 4, sheet.count(5));
        CHECK.same("drop x1", 3, sheet.drop(0, 1));
        CHECK.same("inputs left", 1, sheet.count(5));
        CHECK.same("members left", 1, sheet.count(0));
        CHECK.same("edits are forgotten", 0, sheet.count(6));
        CHECK.same("x1 again", 1, sheet.member(0, -1, 1));
        CHECK.same("without inputs", "empty/1", Check.look(sheet, 1, 1, 1, 0));
        CHECK.same("drop x1 again", 0, sheet.drop(0, 1));
        CHECK.same("drop y1", 1, sheet.drop(1, 1));
        CHECK.same("the cursor stays", 1, sheet.at(1, 0));
    }

    private static void dropChangesTheLeaves() {
        ModelSheet sheet = new ModelSheet();
        sheet.member(0, -1, 1);
        sheet.member(0, 1, 1);
        sheet.member(0, -1, 1);
        CHECK.same("the last leaf", 2, sheet.about(0, 3, 3));
        sheet.drop(0, 2);
        CHECK.same("1 is a leaf then", "-1,1,0,1", about(sheet, 0, 1));
        sheet.drop(0, 0);
        CHECK.same("1 is the first", 0, sheet.about(0, 1, 3));
        CHECK.same("3 is the second", 1, sheet.about(0, 3, 3));
    }

    private static void dropClearsTheNextPattern() {
        ModelSheet sheet = new ModelSheet();
        sheet.member(0, -1, 1);
        sheet.member(1, -1, 1);
        sheet.pattern(0, Check.JUST, 1);
        sheet.pattern(1, Check.LEAVES, 1);
        sheet.drop(0, 1);
        sheet.member(0, -1, 1);
        CHECK.same("a rule", 0, Check.rule(sheet, "7"));
        Check.go(sheet, 0, 1, 0);
        CHECK.same("x is any now", 0, sheet.winner());
        Check.go(sheet, 1, 1, 0);
        CHECK.same("x is any other now", 0, sheet.winner());
        Check.go(sheet, 1, 0, 0);
        CHECK.same("y is still 1", -1, sheet.winner());
    }

    private static void dropIsRefused() {
        ModelSheet sheet = new ModelSheet();
        sheet.member(0, -1, 1);
        sheet.member(0, 1, 1);
        sheet.member(1, -1, 1);
        sheet.member(2, -1, 1);
        Check.put(sheet, 2, 1, 1, 0, 9);
        CHECK.refused("dimension 3", Check.NO_SUCH, sheet, () -> sheet.drop(3, 0));
        CHECK.refused("member 3", Check.NO_SUCH, sheet, () -> sheet.drop(0, 3));
        CHECK.refused("member -1", Check.NO_SUCH, sheet, () -> sheet.drop(0, -1));
        CHECK.refused("it has a child", Check.STATE, sheet, () -> sheet.drop(0, 1));
        sheet.pattern(1, Check.JUST, 1);
        Check.rule(sheet, "0?x2z0:x<y0");
        CHECK.refused("a pattern has y1", Check.STATE, sheet, () -> sheet.drop(1, 1));
        CHECK.refused("a digit is x2", Check.STATE, sheet, () -> sheet.drop(0, 2));
        CHECK.refused("a digit is z0", Check.STATE, sheet, () -> sheet.drop(2, 0));
        CHECK.refused("a later digit is y0", Check.STATE, sheet, () -> sheet.drop(1, 0));
        CHECK.same("z1 goes: only x and y have a 1 or 2", 1, sheet.drop(2, 1));
        CHECK.same("x0 goes: only y and z have a 0", 0, sheet.drop(0, 0));
        sheet.dropRule(0);
        CHECK.same("y0 goes without the rule", 0, sheet.drop(1, 0));
        ModelSheet plain = new ModelSheet();
        plain.member(0, -1, 1);
        Check.rule(plain, "11+y1");
        Check.write(plain, "x1");
        plain.pattern(0, Check.LEAVES, 0);
        CHECK.same("numbers, other dimensions and the pad are no digits of x", 0, plain.drop(0, 1));
        Check.rule(plain, ")");
        plain.pattern(0, Check.LEAVES, 0);
        Check.rule(plain, "1");
        CHECK.refused("a pattern of leaves has x0", Check.STATE, plain, () -> plain.drop(0, 0));
    }

    private static void allMembersOfADimensionCanGo() {
        ModelSheet sheet = new ModelSheet();
        sheet.put(0, 3);
        CHECK.same("the last one goes", 1, sheet.drop(1, 0));
        CHECK.same("none is left", 0, sheet.count(1));
        CHECK.same("no leaf cells", 0f, sheet.filled(0));
        CHECK.refused("no cell", Check.NO_SUCH, sheet, () -> sheet.state(0));
        CHECK.same("a root again", 0, sheet.member(1, -1, 3));
        CHECK.same("it is empty", "empty/1", Check.look(sheet, 0, 0, 0, 0));
    }

    private static void unseenInputsStay() {
        ModelSheet sheet = new ModelSheet();
        sheet.put(0, 1500);
        sheet.member(0, 0, 1);
        CHECK.same("it counts", 1, sheet.count(5));
        CHECK.same("it is not looked at", "0/2", Check.look(sheet, 0, 0, 0, 0));
        CHECK.same("it fills nothing", 0f, sheet.filled(0));
        sheet.move(0, 1, -1);
        CHECK.same("it is seen again", "1.5/1", Check.look(sheet, 0, 0, 0, 0));
        CHECK.same("half is filled", 0.5f, sheet.filled(0));
    }

    private static void aboutIsRefused() {
        ModelSheet sheet = new ModelSheet();
        CHECK.refused("dimension 3", Check.NO_SUCH, sheet, () -> sheet.about(3, 0, 9));
        CHECK.refused("dimension -1", Check.NO_SUCH, sheet, () -> sheet.about(-1, 0, 0));
        CHECK.refused("member 1", Check.NO_SUCH, sheet, () -> sheet.about(0, 1, 9));
        CHECK.refused("member 6", Check.NO_SUCH, sheet, () -> sheet.about(0, 6, 0));
        CHECK.refused("what 4", Check.ARGUMENT, sheet, () -> sheet.about(0, 0, 4));
        CHECK.refused("what -1", Check.ARGUMENT, sheet, () -> sheet.about(0, 0, -1));
    }
}
