import java.io.File;
import java.io.IOException;
import java.lang.reflect.Method;
import java.lang.reflect.Modifier;
import java.net.URL;
import java.net.URLClassLoader;
import java.nio.file.Files;
import java.nio.file.Path;
import java.util.Comparator;
import java.util.List;
import java.util.regex.Matcher;
import java.util.regex.Pattern;
import java.util.stream.Collectors;
import java.util.stream.Stream;
import javax.tools.ToolProvider;

/** README.md tells a run with its answers, and every call of the class: both have to be so. */
public final class ReadmeTest {
    private static final Due DUE = new Due();
    private static final Pattern BLOCK = Pattern.compile("(?s)```java\n(.*?)```");
    private static final Pattern ANSWERED = Pattern.compile("(?m)^d\\.(.*);\\s*// (-?\\d+):.*$");

    public static void main(String[] args) throws Exception {
        String readme = Files.readString(Path.of("README.md"));
        everyCallStands(readme);
        List<String> blocks = BLOCK.matcher(readme).results().map(r -> r.group(1)).collect(Collectors.toList());
        DUE.is("blocks of Java", blocks.size(), 2);
        if (DUE.allRight()) {
            runTold(blocks.get(0), blocks.get(1));
        }
        DUE.finish();
    }

    private static void everyCallStands(String readme) {
        for (Method method : StampDuchy.class.getDeclaredMethods()) {
            if (Modifier.isPublic(method.getModifiers())) {
                Matcher told = Pattern.compile("`" + method.getName() + "\\(([^)`]*)\\)`").matcher(readme);
                boolean found = told.find();
                DUE.is(method.getName() + " stands in README.md", found ? 1 : 0, 1);
                String names = found ? told.group(1) : "";
                int parameters = names.isEmpty() ? 0 : names.split(",").length;
                DUE.is("parameters of " + method.getName(), parameters, method.getParameterCount());
            }
        }
    }

    /** The run becomes a method that answers each call's answer and what was told of it, in turn. */
    private static void runTold(String helper, String run) throws Exception {
        Matcher answered = ANSWERED.matcher(run);
        DUE.is("calls with an answer", answered.results().count(), run.split("\nd\\.").length - 1);
        String asked = answered.replaceAll("all.add(d.$1); all.add($2);");
        String source = "public class ReadmeRun {\n" + helper
            + "public static java.util.List<Integer> run() {\n"
            + "java.util.List<Integer> all = new java.util.ArrayList<>();\n" + asked + "return all;\n}\n}\n";
        Path room = Files.createTempDirectory("readme");
        try {
            List<?> all = compileAndRun(room, source);
            for (int i = 0; i + 1 < all.size(); i += 2) {
                DUE.is("answer " + i / 2 + " of README.md's run", (Integer) all.get(i), (Integer) all.get(i + 1));
            }
        } finally {
            remove(room);
        }
    }

    private static List<?> compileAndRun(Path room, String source) throws Exception {
        Path file = room.resolve("ReadmeRun.java");
        Files.writeString(file, source);
        int wrong = ToolProvider.getSystemJavaCompiler().run(null, null, null,
            "-cp", System.getProperty("java.class.path"), "-d", room.toString(), file.toString());
        DUE.is("README.md's run is compiled", wrong, 0);
        if (wrong != 0) {
            return List.of();
        }
        try (URLClassLoader loader = new URLClassLoader(new URL[] {room.toUri().toURL()})) {
            return (List<?>) loader.loadClass("ReadmeRun").getMethod("run").invoke(null);
        }
    }

    private static void remove(Path room) throws IOException {
        try (Stream<Path> paths = Files.walk(room)) {
            paths.sorted(Comparator.reverseOrder()).map(Path::toFile).forEach(File::delete);
        }
    }
}
