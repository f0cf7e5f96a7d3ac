import java.io.IOException;
import java.lang.reflect.Constructor;
import java.lang.reflect.Method;
import java.lang.reflect.Modifier;
import java.nio.file.Files;
import java.nio.file.Path;
import java.util.ArrayList;
import java.util.LinkedHashMap;
import java.util.List;
import java.util.Map;
import java.util.TreeSet;
import java.util.regex.Matcher;
import java.util.regex.Pattern;

/**
 * "README.md says how the class is used (each of its methods, in the document's words) and how its tests are run, and
 * what it says to run does run."
 */
public final class ReadmeTest {
    private static final Check c = new Check();

    public static void main(String[] args) throws IOException, InterruptedException {
        String readme = Files.readString(Path.of("README.md"));
        Path document = Path.of("../shared/DOC.md");
        Map<String, String> told = methods(readme);
        c.same("the methods that it tells of", new TreeSet<>(told.keySet()), face());
        if (Files.isReadable(document)) {
            promises(Files.readString(document), told);
        } else {
            System.out.println("ReadmeTest: ../shared/DOC.md is not here, so its words are not compared");
        }
        example(readme);
        commands(readme);
        c.end("ReadmeTest");
    }

    /** What is told of each method, by its name and its types. */
    private static Map<String, String> methods(String readme) {
        Map<String, String> told = new LinkedHashMap<>();
        int from = readme.indexOf("## Methods");
        String part = readme.substring(from, readme.indexOf("\n## ", from));
        for (String row : part.split("\n- ")) {
            String text = flat(row.split("\n\n")[0]);
            if (text.startsWith("`")) {
                told.put(shape(text.substring(1, text.indexOf(")`: ") + 1)), text);
            }
        }
        return told;
    }

    /** The name and the types of a method that is written in Java. */
    private static String shape(String signature) {
        return signature.replaceAll("(int|char|boolean) [a-zA-Z]+(?=[,)])", "$1");
    }

    private static String flat(String text) {
        return text.replaceAll("\\s+", " ").trim();
    }

    private static TreeSet<String> face() {
        TreeSet<String> face = new TreeSet<>();
        for (Constructor<?> each : RunwayLoom.class.getConstructors()) {
            face.add(each.getDeclaringClass().getName() + types(each.getParameterTypes()));
        }
        for (Method each : RunwayLoom.class.getDeclaredMethods()) {
            if (Modifier.isPublic(each.getModifiers())) {
                face.add(each.getReturnType() + " " + each.getName() + types(each.getParameterTypes()));
            }
        }
        return face;
    }

    private static String types(Class<?>[] types) {
        List<String> names = new ArrayList<>();
        for (Class<?> type : types) {
            names.add(type.getName());
        }
        return "(" + String.join(", ", names) + ")";
    }

    /** Each sentence of each promise stands in what is told of its method, in their order. */
    private static void promises(String document, Map<String, String> told) {
        Matcher promise = Pattern.compile("## Promise (\\d+): \\w.*\n\n((?s:.*?))(?=\n## )").matcher(document);
        int count = 0;
        while (promise.find()) {
            count++;
            String[] parts = promise.group(2).trim().split("\n\n|\n- |^- ");
            String signature = flat(parts[0]).replaceAll("\\)[^`]*`: .*", ")").substring(1);
            String text = told.getOrDefault(shape(signature), "");
            c.same(promise.group(1) + " is told of", text.startsWith("`" + signature + "`: "), true);
            int at = 0;
            parts[0] = flat(parts[0]).replaceAll("^`[^`]*`: ", "");
            for (String part : parts) {
                String sentence = flat(part).replaceAll("^- |^Throws ", "");
                int found = text.indexOf(sentence, at);
                c.same(promise.group(1) + ": " + sentence, found >= at && !sentence.isEmpty(), true);
                at = Math.max(at, found + sentence.length());
            }
        }
        c.same("promises", count, 37);
    }

    private static void example(String readme) throws IOException {
        String program = Files.readString(Path.of("src/example/java/Morning.java"));
        c.same("the example is the one that is run", blocks(readme, "java"), List.of(program));
    }

    private static List<String> blocks(String readme, String kind) {
        List<String> blocks = new ArrayList<>();
        Matcher block = Pattern.compile("```" + kind + "\n((?s:.*?))```\n").matcher(readme);
        while (block.find()) {
            blocks.add(block.group(1));
        }
        return blocks;
    }

    /** Runs what the page says to run, but for what runs this test, where nothing of it is left behind. */
    private static void commands(String readme) throws IOException, InterruptedException {
        Path place = Files.createTempDirectory("readme");
        Files.createSymbolicLink(place.resolve("src"), Path.of("src").toAbsolutePath());
        List<String> commands = blocks(readme, "sh");
        c.same("what it says to run", commands.size(), 4);
        c.same("all tests are run by", commands.remove(".ci/run\n") && Files.isExecutable(Path.of(".ci/run")), true);
        List<String> printed = new ArrayList<>();
        for (String command : commands) {
            printed.add(run(place, command));
        }
        c.same("what the example prints", printed.get(0), blocks(readme, "text").get(0));
        c.same("one test alone", printed.get(1).matches("DayTest: \\d+ as due, 0 not\n"), true);
        c.same("other seeds", printed.get(2).matches("ModelTest: \\d+ calls as in the model, 0 not\n"), true);
        run(place, "rm -r out src");
        Files.delete(place);
    }

    /** What a command prints, or that it failed. */
    private static String run(Path place, String command) throws IOException, InterruptedException {
        Process process = new ProcessBuilder("bash", "-e", "-c", command).directory(place.toFile())
                .redirectErrorStream(true).start();
        String printed = new String(process.getInputStream().readAllBytes());
        return process.waitFor() == 0 ? printed : "failed: " + printed;
    }
}
