import java.net.URL;
import java.net.URLClassLoader;
import java.nio.file.Files;
import java.nio.file.Path;
import java.util.ArrayList;
import java.util.List;
import java.util.regex.Matcher;
import java.util.regex.Pattern;
import javax.tools.ToolProvider;

/** Compiles and runs the examples of README.md: a call answers, or throws, what stands behind it. */
public final class ReadmeRuns {
    private static final Pattern ANSWERED = Pattern.compile("(x\\..*);\\s+// (-?\\d+|NONE|true|false|\\w+Exception)(:.*)?");

    public static void main(String[] args) throws Exception {
        String source = source(blocks(Files.readString(Path.of("README.md"))));
        Path out = Files.createTempDirectory("readme");
        Path file = out.resolve("ReadmeExamples.java");
        // What is told last goes first.
        out.toFile().deleteOnExit();
        file.toFile().deleteOnExit();
        out.resolve("ReadmeExamples.class").toFile().deleteOnExit();
        Files.writeString(file, source);
        String path = System.getProperty("java.class.path");
        int failed = ToolProvider.getSystemJavaCompiler().run(null, null, null, "-cp", path, "-d", out.toString(), file.toString());
        Check.is("javac", failed, 0);
        if (failed == 0) {
            try (URLClassLoader loader = new URLClassLoader(new URL[] {out.toUri().toURL()})) {
                Object wrong = loader.loadClass("ReadmeExamples").getMethod("wrong").invoke(null);
                Check.is("README.md", String.valueOf(wrong), "");
            }
        }
        Check.done();
    }

    private static List<String> blocks(String readme) {
        List<String> blocks = new ArrayList<>();
        String[] parts = readme.split("```");
        for (int i = 1; i < parts.length; i += 2) {
            if (parts[i].startsWith("java\n")) {
                blocks.add(parts[i].substring(5));
            }
        }
        Check.is("examples", blocks.size() > 2, true);
        return blocks;
    }

    private static String source(List<String> blocks) {
        StringBuilder all = new StringBuilder("import java.util.*;\npublic class ReadmeExamples {\nstatic String wrong = \"\";\n"
                + "static void due(String call, Object got, String want) {\n"
                + "  if (!want.equals(String.valueOf(got))) { wrong += \"\\n\" + call + \" \" + got + \", not \" + want; }\n}\n");
        StringBuilder calls = new StringBuilder();
        int answers = 0;
        for (int i = 0; i < blocks.size(); i++) {
            if (blocks.get(i).startsWith("static ")) {
                all.append(blocks.get(i));
                continue;
            }
            all.append("static void example").append(i).append("() {\n");
            calls.append("example").append(i).append("();\n");
            for (String line : blocks.get(i).split("\n")) {
                Matcher answered = ANSWERED.matcher(line);
                boolean has = answered.matches();
                answers += has ? 1 : 0;
                all.append(has ? due(answered.group(1), answered.group(2)) : line).append('\n');
            }
            all.append("}\n");
        }
        Check.is("lines with an answer", answers > 30, true);
        return all.append("public static String wrong() {\n").append(calls).append("return wrong;\n}\n}\n").toString();
    }

    /** What is thrown is told by its name, as an answer. */
    private static String due(String call, String want) {
        String told = '"' + call + "\", ";
        String value = '"' + (want.equals("NONE") ? "-1" : want) + '"';
        return "try { due(" + told + call + ", " + value + "); } catch (RuntimeException e) { due(" + told
                + "e.getClass().getSimpleName(), " + value + "); }";
    }
}
