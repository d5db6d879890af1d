import java.io.File;
import java.lang.reflect.Method;
import java.lang.reflect.Modifier;
import java.nio.charset.StandardCharsets;
import java.nio.file.*;
import java.util.*;
import java.util.regex.*;
import javax.tools.ToolProvider;

/** Tries all that README.md tells: its Java with the answers behind the calls, and its commands (but .ci/run itself). */
public final class ReadmeTest {
    private static final Pattern BLOCK = Pattern.compile("^```(java|sh)\n(.*?)^```$", Pattern.MULTILINE | Pattern.DOTALL);
    private static final Pattern ANSWERED = Pattern.compile("(.+);\\s*// (-?\\d+|true|false|throws \\w+)\\b.*");

    private static final String HEAD = "import java.util.NoSuchElementException;\n"
        + "public final class Readme {\n"
        + "    interface Call { Object answer(); }\n"
        + "    static int answers = 0;\n"
        + "    static int wrong = 0;\n"
        + "    static void due(String call, Call asked, String due) {\n"
        + "        String got;\n"
        + "        try {\n"
        + "            got = String.valueOf(asked.answer());\n"
        + "        } catch (IndexOutOfBoundsException | NoSuchElementException problem) {\n"
        + "            got = \"throws \" + problem.getClass().getSimpleName();\n"
        + "        }\n"
        + "        answers++;\n"
        + "        if (!got.equals(due)) {\n"
        + "            wrong++;\n"
        + "            System.out.println(call + \" answered \" + got + \", README.md says \" + due);\n"
        + "        }\n"
        + "    }\n";

    private static int wrong = 0;

    public static void main(String[] args) throws Exception {
        String readme = Files.readString(Path.of("README.md"), StandardCharsets.US_ASCII);
        Path folder = Files.createTempDirectory("readme");
        try {
            tryJava(readme, folder);
            tryCommands(readme, folder);
            claimAllCalls(readme);
        } finally {
            delete(folder.toFile());
        }
        System.out.println(wrong == 0 ? "README.md is so" : wrong + " things in README.md are not so");
        if (wrong != 0) {
            System.exit(1);
        }
    }

    private static void claim(boolean holds, String what) {
        if (!holds) {
            wrong++;
            System.out.println(what);
        }
    }

    private static List<String> blocks(String readme, String language) {
        List<String> all = new ArrayList<>();
        Matcher matcher = BLOCK.matcher(readme);
        while (matcher.find()) {
            if (matcher.group(1).equals(language)) {
                all.add(matcher.group(2));
            }
        }
        return all;
    }

    private static void tryJava(String readme, Path folder) throws Exception {
        StringBuilder members = new StringBuilder(HEAD);
        StringBuilder calls = new StringBuilder();
        int due = 0;
        for (String block : blocks(readme, "java")) {
            if (block.startsWith("static ")) {
                members.append(block);
                continue;
            }
            for (String line : block.split("\n")) {
                Matcher answered = ANSWERED.matcher(line);
                if (answered.matches()) {
                    due++;
                    calls.append("due(\"").append(answered.group(1).replace("\"", "\\\"")).append("\", () -> ")
                        .append(answered.group(1)).append(", \"").append(answered.group(2)).append("\");\n");
                } else {
                    calls.append(line).append('\n');
                }
            }
        }
        members.append("public static void main(String[] args) {\n").append(calls)
            .append("if (wrong != 0 || answers != ").append(due).append(") System.exit(1);\n}\n}\n");
        Path source = folder.resolve("Readme.java");
        Files.writeString(source, members, StandardCharsets.US_ASCII);
        String classes = System.getProperty("java.class.path");
        int compiled = ToolProvider.getSystemJavaCompiler().run(null, System.out, System.out, "-proc:none", "-nowarn",
            "-cp", classes, "-d", folder.toString(), source.toString());
        claim(due > 0, "README.md has no answers");
        claim(compiled == 0, "the Java of README.md can't be compiled");
        if (compiled == 0) {
            String java = Path.of(System.getProperty("java.home"), "bin", "java").toString();
            claim(run(folder, java, "-cp", folder + File.pathSeparator + classes, "Readme") == 0,
                "the Java of README.md answers otherwise");
        }
    }

    private static void tryCommands(String readme, Path folder) throws Exception {
        List<String> all = blocks(readme, "sh");
        claim(all.remove(".ci/run\n"), "README.md doesn't name .ci/run");
        claim(Files.isExecutable(Path.of(".ci/run")), ".ci/run can't be run");
        claim(!all.isEmpty(), "README.md names no test alone");
        for (String block : all) {
            claim(run(folder, "sh", "-e", "-c", block) == 0, "these commands of README.md failed:\n" + block);
        }
    }

    /** What it prints comes with what this test prints; what it makes by mktemp is made in that folder. */
    private static int run(Path folder, String... command) throws Exception {
        ProcessBuilder builder = new ProcessBuilder(command).redirectErrorStream(true)
            .redirectOutput(ProcessBuilder.Redirect.INHERIT);
        builder.environment().put("TMPDIR", folder.toString());
        return builder.start().waitFor();
    }

    private static void claimAllCalls(String readme) {
        String code = String.join("", blocks(readme, "java"));
        for (Method method : LalrDesk.class.getDeclaredMethods()) {
            if (Modifier.isPublic(method.getModifiers())) {
                claim(code.contains("." + method.getName() + "("), "README.md doesn't show " + method.getName());
            }
        }
    }

    private static void delete(File file) {
        File[] inside = file.listFiles();
        for (File one : inside == null ? new File[0] : inside) {
            delete(one);
        }
        file.delete();
    }
}
