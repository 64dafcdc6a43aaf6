import java.io.IOException;
import java.nio.file.Path;
import java.util.ArrayList;
import java.util.List;

/** Tests that belong to a sentence of the document each, and a check that no sentence was left out. */
class Rows extends Checks {
    private record Row(int section, String start, Runnable test) {
    }

    private static final List<Row> ROWS = new ArrayList<>();

    /** A test of the sentence of a section that starts like this; section 0 is the description. */
    static void row(int section, String start, Runnable test) {
        ROWS.add(new Row(section, start, test));
    }

    static void runAll(String name, int firstSection, int lastSection) throws IOException {
        Sentences sentences = new Sentences(Path.of("../shared/DOC.md"));
        topic(name);
        if (sentences.promises() != 53) {
            fail("the document has " + sentences.promises() + " promises");
        }
        for (Row row : ROWS) {
            topic(name + ", " + row.section + ": " + row.start);
            if (!sentences.test(row.section, row.start)) {
                fail("the section has not just one such sentence");
            }
            int before = made();
            try {
                row.test.run();
            } catch (RuntimeException e) {
                fail("the test ended with " + e + " at " + e.getStackTrace()[0]);
            }
            if (made() == before) {
                fail("the test looked at nothing");
            }
        }
        topic(name);
        for (String each : sentences.untested(firstSection, lastSection)) {
            fail("no test for " + each);
        }
        if (!report(name + ", " + ROWS.size() + " sentences")) {
            System.exit(1);
        }
    }
}
