import java.util.ArrayList;
import java.util.List;

/**
 * Sentences of the document, each with runs of calls that would go otherwise if it were broken. A run is
 * made of rows, with ; between: "member 0 0 1 = 1" must answer 1, "member 0 6 1 ! none" must throw that
 * exception and change nothing, "at 0 1" must answer, whatever it is. What the calls are, Teller tells.
 */
final class Story {
    private final String name;
    private int rows;
    private int wrong;

    Story(String name) {
        this.name = name;
    }

    /** One run, on a new sheet. */
    void says(String sentence, String... parts) {
        List<String> made = new ArrayList<>();
        Teller teller = new Teller();
        int before = wrong;
        for (String row : String.join(";", parts).split(";")) {
            if (!row.isBlank() && wrong == before) {
                check(sentence, teller, made, row.trim());
            }
        }
    }

    private void check(String sentence, Teller teller, List<String> made, String row) {
        rows++;
        int refusal = row.indexOf(" ! ");
        int answer = row.indexOf(" = ");
        int end = refusal >= 0 ? refusal : answer >= 0 ? answer : row.length();
        String call = row.substring(0, end).trim();
        String want = refusal >= 0 ? row.substring(refusal + 1) : answer >= 0 ? row.substring(answer + 3).trim() : null;
        String got = teller.tell(call);
        boolean good = want == null ? !got.startsWith("!") : got.equals(want);
        if (!good) {
            fail(sentence, made, call, want == null ? "an answer" : want, got);
        } else if (refusal >= 0) {
            String change = Untouched.change(made, call);
            if (change != null) {
                fail(sentence, made, call, "that nothing changes", change);
            }
        }
        made.add(call);
    }

    private void fail(String sentence, List<String> made, String call, String want, String got) {
        wrong++;
        System.out.println(name + ": " + sentence);
        System.out.println("    " + String.join("; ", made));
        System.out.println("    " + call + ": due is " + want + ", answered was " + got);
    }

    void end() {
        System.out.println(name + ": " + rows + " rows, " + wrong + " wrong");
        if (wrong != 0 || rows == 0) {
            System.exit(1);
        }
    }

    /** The same run for each dimension: D stands for it. */
    void inEachDimension(String sentence, String... parts) {
        for (int d = 0; d < 3; d++) {
            says(sentence, String.join(";", parts).replace("D", "" + d).replace("L", "" + "xyz".charAt(d)));
        }
    }
}
