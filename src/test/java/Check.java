import java.util.NoSuchElementException;

/** What the tests share: checks that are counted, and short ways to talk to a sheet. */
final class Check {
    static final Class<? extends RuntimeException> NO_SUCH = NoSuchElementException.class;
    static final Class<? extends RuntimeException> ARGUMENT = IllegalArgumentException.class;
    static final Class<? extends RuntimeException> STATE = IllegalStateException.class;
    static final int JUST = 1, LEAVES = 2;

    interface Call {
        void make();
    }

    private final String name;
    private int rows;
    private int wrong;

    Check(String name) {
        this.name = name;
    }

    void same(String what, Object want, Object got) {
        rows++;
        if (!String.valueOf(want).equals(String.valueOf(got))) {
            wrong++;
            System.out.println(name + ": " + what + ": due is " + want + ", answered was " + got);
        }
    }

    /** The call throws just this exception, and changes no count; Untouched looks at all the rest. */
    void refused(String what, Class<? extends RuntimeException> want, ModelSheet sheet, Call call) {
        String before = counts(sheet);
        same(what, want.getSimpleName(), thrown(call));
        same(what + " changes nothing", before, counts(sheet));
    }

    private static String counts(ModelSheet sheet) {
        StringBuilder text = new StringBuilder("steps " + sheet.steps() + " filled " + sheet.filled(0) + " counts");
        for (int what = 0; what <= 8; what++) {
            text.append(' ').append(sheet.count(what));
        }
        return text.toString();
    }

    static String thrown(Call call) {
        try {
            call.make();
            return "nothing";
        } catch (RuntimeException e) {
            return e.getClass().getSimpleName();
        }
    }

    void end() {
        System.out.println(name + ": " + (rows - wrong) + " of " + rows + " checks hold");
        if (wrong != 0 || rows == 0) {
            System.exit(1);
        }
    }

    static void go(ModelSheet sheet, int x, int y, int z) {
        sheet.at(0, x);
        sheet.at(1, y);
        sheet.at(2, z);
    }

    static void put(ModelSheet sheet, int x, int y, int z, int layer, int v) {
        go(sheet, x, y, z);
        sheet.put(layer, v);
    }

    static void write(ModelSheet sheet, String text) {
        for (int i = 0; i < text.length(); i++) {
            if (!sheet.type(text.charAt(i))) {
                throw new IllegalArgumentException("not typed: " + text);
            }
        }
    }

    /** Makes a rule of a text; the patterns are those told before. */
    static int rule(ModelSheet sheet, String text) {
        write(sheet, text);
        return sheet.rule();
    }

    /** What a cell is, as a text, and the steps that it took: 1.5/3. */
    static String look(ModelSheet sheet, int layer, int x, int y, int z) {
        go(sheet, x, y, z);
        return text(sheet, layer) + "/" + sheet.steps();
    }

    static String text(ModelSheet sheet, int layer) {
        StringBuilder text = new StringBuilder();
        for (int k = 0; k < 20; k++) {
            int code = sheet.shown(layer, k);
            if (code < 0) {
                break;
            }
            text.append((char) code);
        }
        return text.toString();
    }
}
