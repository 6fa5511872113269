/**
 * Promise 8: each short text that can be the beginning of a formula, with each sign behind it. The faults are
 * held against those of the Oracle, which reads from sign to sign with a stack.
 */
public final class FaultsTest {
    private static final String SIGNS = "16x<$+/?:()";
    private static final int LONGEST = 8;
    private static final int CALLS = 480;

    private ModelSheet sheet = new ModelSheet();
    private int calls;
    private int texts;
    private int wrong;

    public static void main(String[] args) {
        FaultsTest test = new FaultsTest();
        test.readAll("");
        System.out.println("faults: " + test.texts + " texts, " + test.wrong + " wrong");
        if (test.wrong != 0 || test.texts == 0) {
            System.exit(1);
        }
    }

    private void readAll(String text) {
        int due = Oracle.fault(text);
        int got = fault(text);
        texts++;
        if (due != got) {
            wrong++;
            System.out.println("fault of " + text + ": due is " + due + ", answered was " + got);
        }
        boolean canGoOn = due == 0 || due == 1 + text.length();
        for (int i = 0; i < SIGNS.length() && canGoOn && text.length() < LONGEST && wrong < 10; i++) {
            readAll(text + SIGNS.charAt(i));
        }
    }

    private int fault(String text) {
        calls += text.length() + 2;
        if (calls > CALLS) {
            sheet = new ModelSheet();
            calls = text.length() + 2;
        }
        Check.write(sheet, text);
        int fault = sheet.rule();
        if (fault == 0) {
            sheet.dropRule(0);
        }
        return fault;
    }
}
