import java.io.IOException;
import java.lang.reflect.Method;
import java.lang.reflect.Modifier;
import java.nio.file.Files;
import java.nio.file.Path;
import java.util.List;
import java.util.stream.Stream;

/** What README.md says of the class and of the tests is so, and nothing is left out. */
public final class ReadmeTest {
    public static void main(String[] args) throws IOException {
        List<String> readme = Files.readAllLines(Path.of("README.md"));
        linesOfUse(readme);
        everyCallIsNamed(String.join("\n", readme));
        everyTestIsNamed(String.join("\n", readme));
        Due.end();
    }

    private static void linesOfUse(List<String> readme) {
        TourForms forms = new TourForms(5, 5);
        line(readme, "forms.bar(4, 4, true);", forms.bar(4, 4, true));
        line(readme, "forms.bar(3, 4, true);", forms.bar(3, 4, true));
        line(readme, "forms.start(2, 2);", forms.start(2, 2));
        line(readme, "forms.ways(0, 12);", forms.ways(0, 12));
        line(readme, "forms.tour(0, false, 100000);", forms.tour(0, false, 100000));
        line(readme, "forms.at(1);", forms.at(1));
        line(readme, "forms.steps();", forms.steps());
        line(readme, "forms.queens();", forms.queens());
        line(readme, "forms.queen(0, 1);", forms.queen(0, 1));
        line(readme, "forms.given(0, 0, 3);", forms.given(0, 0, 3));
        line(readme, "forms.fill();", forms.fill());
        line(readme, "forms.number(1, 0);", forms.number(1, 0));
        line(readme, "forms.fills(1000);", forms.fills(1000));
        line(readme, "forms.magic(5, 2, 2);", forms.magic(5, 2, 2));
    }

    /** One line makes this call, and its remark begins with what the call answers. */
    private static void line(List<String> readme, String call, Object answer) {
        long lines = readme.stream().filter(line -> line.contains(call)).count();
        Due.due("lines of README.md with " + call, lines, 1);
        boolean told = readme.stream().anyMatch(line -> line.contains(call) && line.contains("// " + answer + ":"));
        Due.due("README.md tells that " + call + " answers " + answer, told, true);
    }

    private static void everyCallIsNamed(String readme) {
        for (Method method : TourForms.class.getDeclaredMethods()) {
            if (Modifier.isPublic(method.getModifiers())) {
                Due.due("README.md names " + method.getName(), readme.contains("| `" + method.getName() + "("), true);
            }
        }
        Due.due("README.md names the constructor", readme.contains("| `TourForms(width, height)`"), true);
    }

    private static void everyTestIsNamed(String readme) throws IOException {
        try (Stream<Path> files = Files.list(Path.of("src/test/java"))) {
            files.map(file -> file.getFileName().toString().replace(".java", "")).forEach(
                    name -> Due.due("README.md names " + name, readme.contains("`" + name), true));
        }
    }
}
