import java.io.IOException;
import java.nio.file.Files;
import java.nio.file.Path;
import java.util.TreeSet;
import java.util.regex.Matcher;
import java.util.regex.Pattern;

/** README.md: its examples answer what it tells, and it tells of each call of the face. */
final class ReadmeTest {
    private final Checks checks = new Checks();

    public static void main(String[] args) throws IOException {
        ReadmeTest t = new ReadmeTest();
        String page = Files.readString(Path.of("README.md"));
        t.examples(page);
        t.callsOfTheFace(page);
        t.checks.end();
    }

    /** The examples are run as they stand here; the page must have the same lines. */
    private void examples(String page) {
        NoteBells x = new NoteBells();
        Checks.type(x, text(page, "level"));
        example(page, "x.shaft();        // 6", x.shaft(), 6);
        example(page, "x.level(1, 3);    // 47", x.level(1, 3), 47);
        example(page, "x.plucks(0);      // 59", x.plucks(0), 59);
        Checks.type(x, text(page, "ear"));
        example(page, "x.shaft();        // -14", x.shaft(), -14);
        example(page, "x.clear();        // 7", x.clear(), 7);
    }

    private void example(String page, String line, long got, long want) {
        checks.isTrue("README.md has '" + line + "'", page.contains(line + ":"));
        checks.due(line, got, want);
    }

    private String text(String page, String firstWord) {
        Matcher m = Pattern.compile("typeText\\(x, \"(" + firstWord + "[^\"]*)\"\\);").matcher(page);
        boolean has = m.find();
        checks.isTrue("README.md types a text that begins with " + firstWord, has);
        return has ? m.group(1) : "";
    }

    private void callsOfTheFace(String page) {
        TreeSet<String> told = new TreeSet<>();
        Matcher row = Pattern.compile("(?m)^\\| `(\\w+)\\(").matcher(page);
        while (row.find()) {
            told.add(row.group(1));
        }
        TreeSet<String> face = new TreeSet<>();
        for (java.lang.reflect.Method m : NoteBells.class.getMethods()) {
            if (m.getDeclaringClass() == NoteBells.class) {
                face.add(m.getName());
            }
        }
        checks.isTrue("README.md has a row for each call: " + told + " for " + face, told.equals(face));
    }
}
