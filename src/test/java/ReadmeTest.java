import java.io.IOException;
import java.lang.reflect.Method;
import java.nio.file.Files;
import java.nio.file.Path;
import java.util.ArrayList;
import java.util.List;
import java.util.Set;
import java.util.TreeSet;
import java.util.regex.Matcher;
import java.util.regex.Pattern;

/** README.md's example prints what README.md says, and its list of calls is the face; run from the project's folder. */
final class ReadmeTest {
    private ReadmeTest() {
    }

    public static void main(String[] args) throws IOException, InterruptedException {
        String readme = Files.readString(Path.of("README.md"));
        List<String> due = block(readme, "text").lines().toList();
        List<String> got = run(block(readme, "java"));
        Check.due("lines that the example prints", got.size(), due.size());
        for (int i = 0; i < Math.min(got.size(), due.size()); i++) {
            Check.due("the example prints \"" + got.get(i) + "\", README.md says \"" + due.get(i) + "\"; the same",
                    got.get(i).equals(due.get(i)), true);
        }
        calls(readme);
        Check.end();
    }

    private static String block(String readme, String language) {
        Matcher m = Pattern.compile("(?s)```" + language + "\n(.*?)```").matcher(readme);
        return m.find() ? m.group(1) : "";
    }

    /** The example is a file of its own, as a reader would make it. */
    private static List<String> run(String program) throws IOException, InterruptedException {
        Path folder = Files.createTempDirectory("readme");
        Path file = folder.resolve("Example.java");
        Path printed = folder.resolve("printed");
        Files.writeString(file, program);
        String java = Path.of(System.getProperty("java.home"), "bin", "java").toString();
        Process process = new ProcessBuilder(java, "-cp", System.getProperty("java.class.path"), file.toString())
                .redirectErrorStream(true).redirectOutput(printed.toFile()).start();
        Check.due("exit code of the example", process.waitFor(), 0);
        List<String> lines = new ArrayList<>(Files.readAllLines(printed));
        Files.delete(file);
        Files.delete(printed);
        Files.delete(folder);
        return lines;
    }

    private static void calls(String readme) {
        Set<String> told = new TreeSet<>();
        Matcher row = Pattern.compile("(?m)^\\| [^|]* \\| (`.*`) \\|$").matcher(readme);
        while (row.find()) {
            told.addAll(List.of(row.group(1).replace("`", "").split(", ")));
        }
        Set<String> face = new TreeSet<>();
        for (Method m : WrongRoom.class.getDeclaredMethods()) {
            if (java.lang.reflect.Modifier.isPublic(m.getModifiers())) {
                face.add(m.getName());
            }
        }
        Check.due("README.md lists " + told + ", which is the face", told.equals(face), true);
    }
}
