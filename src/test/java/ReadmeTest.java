import java.io.IOException;
import java.lang.reflect.Method;
import java.lang.reflect.Modifier;
import java.nio.file.Files;
import java.nio.file.Path;
import java.util.List;

/** README.md tells every method of the face, and its example answers what it says. */
public final class ReadmeTest {
    private static final Due due = new Due("ReadmeTest");

    public static void main(String[] args) throws IOException {
        example();
        exampleIsThatOfReadme();
        everyMethodIsTold();
        due.end();
    }

    private static void example() {
        // The lines from here on stand in README.md.
        SegmentForms forms = new SegmentForms();

        // A grammar of kind 1: one ABC, and behind it up to three DEF in its group.
        forms.row(1, 65536 * 'A' + 256 * 'B' + 'C', 1, 1, 0);
        forms.row(1, 65536 * 'D' + 256 * 'E' + 'F', 0, 3, 1);

        String text = "UNH+ref+1'ABC+x:y*z'DEF+?+49'UNT+4+ref'";
        for (int i = 0; i < text.length(); i++) {
            forms.add(text.charAt(i));
        }
        int segments = forms.read();             // 4; below 0 it is -1 less the first wrong place
        int wrong = forms.check();               // 0; else fault(0 .. 2) tells what and where
        int above = forms.segment(2, 3);         // 1: DEF is in the group of segment 1
        int sign = forms.letter(1, 0, 1, 0, 0);  // 'z': segment, element, repeat, component, sign
        int length = forms.build();              // at(0) .. at(length - 1) are the signs
        // The lines up to here stand in README.md.

        due.is(4, "segments of the example", segments);
        due.is(0, "wrong of the example", wrong);
        due.is(1, "above of the example", above);
        due.is('z', "sign of the example", sign);
        due.is(text.length(), "length of the example", length);
        due.is(text, "what the example built", Forms.built(forms));
    }

    private static void exampleIsThatOfReadme() throws IOException {
        List<String> readme = Files.readAllLines(Path.of("README.md"));
        List<String> source = Files.readAllLines(Path.of("src/test/java/ReadmeTest.java"));
        String told = between(readme, "```java", "```");
        String run = between(source, "// The lines from here on stand in README.md.",
                "// The lines up to here stand in README.md.");
        due.is(false, "no example in README.md", told.isEmpty());
        due.is(run, "the example of README.md", told);
    }

    /** The lines between two lines, each without the blanks that it begins with. */
    private static String between(List<String> lines, String first, String last) {
        StringBuilder all = new StringBuilder();
        boolean inside = false;
        for (String line : lines) {
            if (inside && line.strip().equals(last)) {
                return all.toString();
            }
            if (inside) {
                all.append(line.strip()).append('\n');
            }
            inside = inside || line.strip().equals(first);
        }
        return "";
    }

    private static void everyMethodIsTold() throws IOException {
        String readme = Files.readString(Path.of("README.md"));
        for (Method method : SegmentForms.class.getDeclaredMethods()) {
            if (Modifier.isPublic(method.getModifiers())) {
                due.is(true, "README.md tells " + method.getName(),
                        readme.contains("| `" + method.getName() + "("));
            }
        }
        due.is(true, "README.md tells how to run the tests", readme.contains(".ci/run"));
    }
}
