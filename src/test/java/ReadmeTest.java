import java.io.IOException;
import java.io.StringWriter;
import java.lang.reflect.InvocationTargetException;
import java.net.URI;
import java.net.URL;
import java.net.URLClassLoader;
import java.nio.file.Files;
import java.nio.file.Path;
import java.util.ArrayList;
import java.util.List;
import javax.tools.JavaCompiler;
import javax.tools.JavaFileObject;
import javax.tools.SimpleJavaFileObject;
import javax.tools.StandardJavaFileManager;
import javax.tools.ToolProvider;

/** The examples of README.md: each call answers what stands behind its arrow, or is accepted where there is none. */
public final class ReadmeTest {
    private static final String ARROW = "-> ";
    private static final Check check = new Check();
    private static int answersShown = 0;

    public static void main(String[] args) throws IOException, ReflectiveOperationException {
        List<List<String>> examples = examples(Files.readAllLines(Path.of("README.md")));
        check.due("README.md has examples", examples.size() >= 1, true);
        for (int i = 0; i < examples.size(); i++) {
            run("Example" + i, examples.get(i));
        }
        check.due("the examples show answers", answersShown >= 1, true);
        check.end();
    }

    private static List<List<String>> examples(List<String> lines) {
        List<List<String>> found = new ArrayList<>();
        boolean inside = false;
        for (String line : lines) {
            if (line.startsWith("```")) {
                inside = line.equals("```java");
                if (inside) {
                    found.add(new ArrayList<>());
                }
            } else if (inside) {
                found.get(found.size() - 1).add(line);
            }
        }
        return found;
    }

    private static void run(String name, List<String> lines) throws IOException, ReflectiveOperationException {
        StringBuilder source = new StringBuilder("public final class " + name + " {\npublic static void run() {\n");
        for (String line : lines) {
            source.append(checked(line)).append('\n');
        }
        Path classes = Files.createTempDirectory("readme");
        StringWriter complaints = new StringWriter();
        boolean compiled = compile(name, source.append("}\n}\n").toString(), classes, complaints);
        check.due(name + " compiles " + complaints, compiled, true);
        if (compiled) {
            start(name, classes);
        }
        Files.deleteIfExists(classes.resolve(name + ".class"));
        Files.delete(classes);
    }

    /** Hands the answer of each call of the line to answered(); what is no call of f stays as it is. */
    private static String checked(String line) {
        int comment = line.indexOf("//");
        String code = comment < 0 ? line : line.substring(0, comment);
        String told = comment < 0 ? "" : line.substring(comment);
        StringBuilder changed = new StringBuilder();
        for (String part : code.split(";")) {
            String call = part.strip();
            if (call.startsWith("f.")) {
                changed.append("ReadmeTest.answered(\"").append(call).append("\", ").append(call).append(due(told)).append(");");
            } else if (!call.isEmpty()) {
                changed.append(call).append(';');
            }
        }
        return changed.toString();
    }

    private static String due(String told) {
        int arrow = told.indexOf(ARROW);
        if (arrow < 0) {
            return "";
        }
        String answer = told.substring(arrow + ARROW.length()).split("[, ]")[0];
        boolean isConstant = Character.isUpperCase(answer.charAt(0));
        return ", " + (isConstant ? "FortranStatic." : "") + answer;
    }

    private static boolean compile(String name, String source, Path classes, StringWriter complaints) throws IOException {
        JavaFileObject file = new SimpleJavaFileObject(URI.create("string:///" + name + ".java"), JavaFileObject.Kind.SOURCE) {
            @Override
            public CharSequence getCharContent(boolean ignoreEncodingErrors) {
                return source;
            }
        };
        JavaCompiler compiler = ToolProvider.getSystemJavaCompiler();
        List<String> options = List.of("-d", classes.toString(), "-cp", System.getProperty("java.class.path"));
        try (StandardJavaFileManager files = compiler.getStandardFileManager(null, null, null)) {
            return compiler.getTask(complaints, files, null, options, null, List.of(file)).call();
        }
    }

    private static void start(String name, Path classes) throws IOException, ReflectiveOperationException {
        URL[] place = {classes.toUri().toURL()};
        try (URLClassLoader loader = new URLClassLoader(place)) {
            loader.loadClass(name).getMethod("run").invoke(null);
        } catch (InvocationTargetException thrown) {
            check.due(name + " ends without " + thrown.getCause(), false, true);
        }
    }

    public static void answered(String call, boolean accepted) {
        check.due(call, accepted, true);
    }

    public static void answered(String call, boolean got, boolean want) {
        answersShown++;
        check.due(call, got, want);
    }

    public static void answered(String call, int got, int want) {
        answersShown++;
        check.due(call, got, want);
    }
}
