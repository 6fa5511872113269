import java.util.NoSuchElementException;

/** What the tests share: checks that are counted, and short ways to talk to a sheet. */
final class Check {
    static final Class<? extends RuntimeException> NO_SUCH = NoSuchElementException.class;
    static final Class<? extends RuntimeException> ARGUMENT = IllegalArgumentException.class;
    static final Class<? extends RuntimeException> STATE = IllegalStateException.class;
    static final int JUST = 1, LEAVES = 2;

    interface Call {
        void make();
    }

    private final String name;
    private int rows;
    private int wrong;

    Check(String name) {
        this.name = name;
    }

    void same(String what, Object want, Object got) {
        rows++;
        if (!String.valueOf(want).equals(String.valueOf(got))) {
            wrong++;
            System.out.println(name + ": " + what + ": due is " + want + ", answered was " + got);
        }
    }

    /** The call throws just this exception, and changes nothing that can be seen. */
    void refused(String what, Class<? extends RuntimeException> want, ModelSheet sheet, Call call) {
        picture(sheet);
        String before = picture(sheet);
        same(what, want.getSimpleName(), thrown(call));
        same(what + " changes nothing", before, picture(sheet));
    }

    static String thrown(Call call) {
        try {
            call.make();
            return "nothing";
        } catch (RuntimeException e) {
            return e.getClass().getSimpleName();
        }
    }

    void end() {
        System.out.println(name + ": " + (rows - wrong) + " of " + rows + " checks hold");
        if (wrong != 0 || rows == 0) {
            System.exit(1);
        }
    }

    static void go(ModelSheet sheet, int x, int y, int z) {
        sheet.at(0, x);
        sheet.at(1, y);
        sheet.at(2, z);
    }

    static void put(ModelSheet sheet, int x, int y, int z, int layer, int v) {
        go(sheet, x, y, z);
        sheet.put(layer, v);
    }

    static void write(ModelSheet sheet, String text) {
        for (int i = 0; i < text.length(); i++) {
            if (!sheet.type(text.charAt(i))) {
                throw new IllegalArgumentException("not typed: " + text);
            }
        }
    }

    /** Makes a rule of a text; the patterns are those told before. */
    static int rule(ModelSheet sheet, String text) {
        write(sheet, text);
        return sheet.rule();
    }

    /** What a cell is, as a text, and the steps that it took: 1.5/3. */
    static String look(ModelSheet sheet, int layer, int x, int y, int z) {
        go(sheet, x, y, z);
        return text(sheet, layer) + "/" + sheet.steps();
    }

    static String text(ModelSheet sheet, int layer) {
        StringBuilder text = new StringBuilder();
        for (int k = 0; k < 20; k++) {
            int code = sheet.shown(layer, k);
            if (code < 0) {
                break;
            }
            text.append((char) code);
        }
        return text.toString();
    }

    /** All that can be seen of a sheet, but for the pad's text and the next rule's patterns. */
    static String picture(ModelSheet sheet) {
        StringBuilder text = new StringBuilder("steps " + sheet.steps());
        int fuel = sheet.fuel(2000);
        text.append(" fuel ").append(fuel).append(" counts");
        for (int what = 0; what <= 8; what++) {
            text.append(' ').append(sheet.count(what));
        }
        int[] cursor = new int[3];
        for (int d = 0; d < 3; d++) {
            cursor[d] = sheet.at(d, 0);
            for (int m = 0; m < 6; m++) {
                text.append(member(sheet, d, m));
            }
        }
        for (int layer = 0; layer < sheet.count(4); layer++) {
            text.append(" filled ").append(sheet.filled(layer));
        }
        for (int cell = 0; cell < 216; cell++) {
            go(sheet, cell / 36, cell / 6 % 6, cell % 6);
            text.append(cell(sheet));
        }
        go(sheet, cursor[0], cursor[1], cursor[2]);
        sheet.fuel(fuel);
        return text + " at " + cursor[0] + cursor[1] + cursor[2];
    }

    private static String member(ModelSheet sheet, int d, int m) {
        try {
            return " " + d + m + ":" + sheet.about(d, m, 0) + "," + sheet.about(d, m, 1) + ","
                    + sheet.about(d, m, 2) + "," + sheet.about(d, m, 3);
        } catch (NoSuchElementException e) {
            return "";
        }
    }

    private static String cell(ModelSheet sheet) {
        StringBuilder text = new StringBuilder();
        for (int layer = 0; layer < sheet.count(4); layer++) {
            try {
                text.append(' ').append(sheet.winner());
                text.append(':').append(sheet.state(layer)).append(',').append(sheet.value(layer));
            } catch (NoSuchElementException e) {
                return "";
            } catch (IllegalStateException e) {
                text.append("too much");
            }
        }
        return text.toString();
    }
}
