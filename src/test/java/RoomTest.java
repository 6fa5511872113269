import java.lang.management.ManagementFactory;

/** That runs of nearly 512 of the dearest calls fit many times into the room that LANGUAGE.md and the task tell. */
public final class RoomTest {
    private static final Check CHECK = new Check("room");
    /** With those that make the sheet ready, no more than 512. */
    private static final int CALLS = 450;
    /** 7.3 million elements are some 29 million bytes at four bytes each; a run shall take a twentieth. */
    private static final long MOST = 1500000;

    private interface Run {
        void make();
    }

    public static void main(String[] args) {
        fits("shown", RoomTest::deepestLooks);
        fits("spread and undo", RoomTest::widestEdits);
        fits("rule and dropRule", RoomTest::rules);
        fits("member, move and drop", RoomTest::members);
        fits("exceptions", RoomTest::exceptions);
        CHECK.end();
    }

    private static void fits(String what, Run run) {
        com.sun.management.ThreadMXBean bean = (com.sun.management.ThreadMXBean) ManagementFactory.getThreadMXBean();
        run.make();
        long before = bean.getThreadAllocatedBytes(Thread.currentThread().getId());
        run.make();
        long taken = bean.getThreadAllocatedBytes(Thread.currentThread().getId()) - before;
        CHECK.same(what + " takes " + taken + " bytes, not too many", true, taken < MOST);
    }

    private static ModelSheet full() {
        ModelSheet sheet = new ModelSheet();
        for (int d = 0; d < 3; d++) {
            for (int m = 1; m < 6; m++) {
                sheet.member(d, 0, 1);
            }
        }
        sheet.fuel(2000);
        return sheet;
    }

    private static void deepestLooks() {
        ModelSheet sheet = full();
        sheet.pattern(0, Check.JUST, 0);
        Check.rule(sheet, "x$+x$+x$+x$+x$+x$+x$+x$");
        for (int i = 0; i < CALLS; i++) {
            sheet.shown(0, 0);
        }
        CHECK.same("steps of a dear look", 1241, sheet.steps());
    }

    private static void widestEdits() {
        ModelSheet sheet = full();
        for (int i = 0; i < CALLS / 4; i++) {
            sheet.spread(0, i);
            sheet.spread(0, 2 * i);
            sheet.undo();
            sheet.filled(0);
        }
    }

    private static void rules() {
        ModelSheet sheet = new ModelSheet();
        for (int i = 0; i < CALLS / 4; i++) {
            sheet.type((char) ('0' + i % 10));
            sheet.rule();
            if (sheet.count(3) == 8) {
                sheet.dropRule(i % 8);
            }
        }
        CHECK.same("rules are left", 7, sheet.count(3));
    }

    private static void members() {
        ModelSheet sheet = new ModelSheet();
        for (int i = 0; i < CALLS / 3; i++) {
            int m = sheet.member(i % 3, 0, 2);
            sheet.move(i % 3, m, -1);
            sheet.drop(i % 3, m);
        }
        CHECK.same("one member is left", 1, sheet.count(1));
    }

    private static void exceptions() {
        ModelSheet sheet = full();
        sheet.fuel(150);
        for (int i = 0; i < CALLS; i++) {
            Check.thrown(() -> sheet.state(0));
        }
    }
}
