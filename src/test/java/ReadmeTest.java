import java.io.IOException;
import java.nio.charset.StandardCharsets;
import java.nio.file.Files;
import java.nio.file.Path;
import java.util.ArrayList;
import java.util.Comparator;
import java.util.List;
import java.util.regex.Matcher;
import java.util.regex.Pattern;
import java.util.stream.Stream;

/** README.md: its programs compile and answer as it says, and it has every call, every constant and every test. */
public final class ReadmeTest {
    private static final Checks CHECKS = new Checks();
    private static final Pattern ANSWERED = Pattern.compile("\\s*(x\\.\\w+\\(.*\\));\\s*// (NO|-?\\d+): .+");
    private static final Pattern PLAIN = Pattern.compile("\\s*(NineSails x = new NineSails\\(\\);|feed\\(x, \".*\"\\);)");

    /** What stands in the fenced blocks of a language, one after the other. */
    private static List<String> blocks(String readme, String language) {
        List<String> found = new ArrayList<>();
        Matcher m = Pattern.compile("(?ms)^```" + language + "\n(.*?)^```$").matcher(readme);
        while (m.find()) found.add(m.group(1));
        return found;
    }

    /** Runs a command in a directory: what it tells, or null if it fails. */
    private static String run(Path where, String... command) throws IOException, InterruptedException {
        Process p = new ProcessBuilder(command).directory(where.toFile()).redirectErrorStream(true).start();
        p.getOutputStream().close();
        String told = new String(p.getInputStream().readAllBytes(), StandardCharsets.UTF_8);
        if (p.waitFor() == 0) return told;
        System.out.println(String.join(" ", command) + " failed:\n" + told);
        return null;
    }

    /** The first program, by the very commands that stand under it. */
    private static void voyage(Path work, String program, String commands, String due) throws IOException, InterruptedException {
        Files.writeString(work.resolve("Voyage.java"), program);
        String told = null;
        for (String line : commands.split("\n")) {
            told = run(work, line.split(" "));
            CHECKS.due(line, told == null ? 0 : 1, 1);
        }
        if (!due.equals(told)) System.out.println("Voyage told\n" + told + "README.md says\n" + due);
        CHECKS.due("what Voyage tells", due.equals(told) ? 1 : 0, 1);
    }

    /** All the other blocks, as one program that tells the answers which are not as the README says. */
    private static void calls(Path work, List<String> blocks) throws IOException, InterruptedException {
        StringBuilder code = new StringBuilder("public final class Calls {\n    public static void main(String[] args) {\n");
        int answers = 0;
        for (String block : blocks) {
            for (String line : block.split("\n")) {
                Matcher answered = ANSWERED.matcher(line);
                if (answered.matches()) {
                    String want = answered.group(2).equals("NO") ? "NineSails.NO" : answered.group(2);
                    String call = answered.group(1);
                    code.append("due(\"").append(call.replace("\"", "\\\"")).append("\", ").append(call).append(", ").append(want).append(");\n");
                    answers++;
                } else {
                    CHECKS.due("plain, or with its answer: " + line, PLAIN.matcher(line).matches() ? 1 : 0, 1);
                    code.append(line).append('\n');
                }
            }
        }
        code.append("    }\n    static void feed(NineSails x, String text) { Voyage.feed(x, text); }\n");
        code.append("    static void due(String call, long got, long want) {\n");
        code.append("        if (got != want) System.out.println(call + \" answered \" + got + \", README.md says \" + want);\n    }\n}\n");
        Files.writeString(work.resolve("Calls.java"), code.toString());
        CHECKS.due("README.md's calls compile", run(work, "javac", "-cp", "out", "-d", "out", "Calls.java") == null ? 0 : 1, 1);
        String told = run(work, "java", "-cp", "out", "Calls");
        if (told != null) System.out.print(told);
        CHECKS.due("README.md's answers", told != null && told.isEmpty() ? 1 : 0, 1);
        CHECKS.due("answers are many: " + answers, answers > 50 ? 1 : 0, 1);
    }

    /** Each call's row in the table, with the names that the document gives. */
    private static void face(String readme, String document) {
        String face = blocks(document, "java").get(0);
        Matcher m = Pattern.compile("public (?:int|long) (\\w+)\\((.*?)\\);").matcher(face);
        int methods = 0;
        while (m.find()) {
            String call = m.group(1) + "(" + m.group(2).replaceAll("(int|long|boolean) ", "") + ")";
            CHECKS.due("a row for " + call, readme.split(Pattern.quote("\n| `" + call + "` |"), -1).length - 1, 1);
            boolean shown = blocks(readme, "java").stream().anyMatch(b -> b.contains("x." + m.group(1) + "("));
            CHECKS.due("a program with " + call, shown ? 1 : 0, 1);
            methods++;
        }
        CHECKS.due("methods", methods, 36);
        Matcher n = Pattern.compile("(\\w+) = (-?\\d+)[,;]").matcher(face);
        int constants = 0;
        while (n.find()) {
            CHECKS.due("what " + n.group() + " means", readme.contains("\n| `" + n.group(1) + "` " + n.group(2) + " |") ? 1 : 0, 1);
            constants++;
        }
        CHECKS.due("constants", constants, 4);
        CHECKS.due("what NO means", readme.contains("\n| `NO` |") ? 1 : 0, 1);
    }

    private static void tests(String readme, Path[] files) {
        CHECKS.due("there are tests", files.length > 0 ? 1 : 0, 1);
        for (Path file : files) {
            String name = file.getFileName().toString().replace(".java", "");
            CHECKS.due("README.md tells of " + name, readme.contains("`" + name + "`") ? 1 : 0, 1);
        }
    }

    public static void main(String[] args) throws IOException, InterruptedException {
        Project project = new Project(args);
        String readme = Project.read(project.root.resolve("README.md"));
        Path work = Files.createTempDirectory("readme");
        try {
            Path copy = work.resolve("src/main/java/NineSails.java");
            Files.createDirectories(copy.getParent());
            Files.copy(project.program, copy);
            List<String> programs = blocks(readme, "java");
            voyage(work, programs.get(0), blocks(readme, "sh").get(0), blocks(readme, "text").get(0));
            calls(work, programs.subList(1, programs.size()));
        } finally {
            try (Stream<Path> made = Files.walk(work)) {
                made.sorted(Comparator.reverseOrder()).forEach(p -> p.toFile().delete());
            }
        }
        face(readme, project.document);
        tests(readme, project.tests());
        CHECKS.end();
    }
}
