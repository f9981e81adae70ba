import java.io.IOException;
import java.lang.reflect.Method;
import java.net.URL;
import java.net.URLClassLoader;
import java.nio.file.DirectoryStream;
import java.nio.file.Files;
import java.nio.file.Path;
import java.util.ArrayList;
import java.util.List;
import java.util.regex.Matcher;
import java.util.regex.Pattern;
import javax.tools.ToolProvider;

/**
 * README.md: the calls that stand there are made, by the class and by Plain, and must be answered as
 * it says there; its commands must be there to be run.
 */
public final class ReadmeTest {
    private static final Pattern FENCED = Pattern.compile("(?s)```(\\w+)\n(.*?)```");
    private static final Pattern ENDS = Pattern.compile(";(\\s*//.*)?$");
    private static final Pattern ANSWERED = Pattern.compile("(?s)(?:int (\\w+) = )?(.+);\\s*// (-?\\d+|true|false)(?:: .+)?");
    private static final String FIRST = "WhatWasNearly museum = new WhatWasNearly();";

    private final Due due = new Due();
    private final List<String> statements = new ArrayList<>();
    private final StringBuilder functions = new StringBuilder();
    private final List<String> commands = new ArrayList<>();

    public static void main(String[] args) throws Exception {
        ReadmeTest test = new ReadmeTest();
        String readme = Files.readString(Path.of("README.md"));
        test.take(readme);
        test.everyMethodIsUsed();
        test.answers("WhatWasNearly");
        test.answers("Plain");
        test.commandsAreThere();
        test.testsAreNamed(readme);
        test.due.close();
    }

    private void take(String readme) {
        Matcher fenced = FENCED.matcher(readme);
        while (fenced.find()) {
            if (fenced.group(1).equals("sh")) {
                commands.addAll(List.of(fenced.group(2).strip().split("\n")));
            } else if (fenced.group(2).startsWith("static ")) {
                functions.append(fenced.group(2));
            } else {
                takeStatements(fenced.group(2));
            }
        }
    }

    private void takeStatements(String block) {
        StringBuilder statement = new StringBuilder();
        for (String line : block.split("\n")) {
            statement.append(line).append('\n');
            if (ENDS.matcher(line).find()) {
                statements.add(statement.toString().strip());
                statement.setLength(0);
            }
        }
        due.is("a statement without an end: " + statement, statement.toString().isBlank(), true);
    }

    private void everyMethodIsUsed() {
        String used = functions + String.join("\n", statements);
        for (Method m : Plain.class.getDeclaredMethods()) {
            if (java.lang.reflect.Modifier.isPublic(m.getModifiers())) {
                due.is("whether " + m.getName() + " is used", used.contains("museum." + m.getName() + "("), true);
            }
        }
    }

    /** The statements as a program that keeps what was answered and what README.md says. */
    private String program(String type) {
        StringBuilder body = new StringBuilder();
        for (String statement : statements) {
            Matcher answered = ANSWERED.matcher(statement);
            if (statement.equals(FIRST)) {
                body.append(statement).append('\n');
            } else if (answered.matches()) {
                String name = answered.group(1) == null ? "answer" + body.length() : answered.group(1);
                body.append("var ").append(name).append(" = ").append(answered.group(2)).append(";\n");
                body.append("rows.add(new String[] {\"\" + ").append(name).append(", \"").append(answered.group(3)).append("\"});\n");
            } else {
                due.is("a call without an answer: " + statement, 0, 1);
            }
        }
        String source = "public class Readme {\n" + functions
            + "public static java.util.List<String[]> rows() {\n"
            + "java.util.List<String[]> rows = new java.util.ArrayList<>();\n" + body + "return rows;\n}\n}\n";
        return source.replace("WhatWasNearly", type);
    }

    private void answers(String type) throws Exception {
        Path out = Files.createTempDirectory("readme");
        Path source = out.resolve("Readme.java");
        Files.writeString(source, program(type));
        int failed = ToolProvider.getSystemJavaCompiler().run(null, null, null,
            "-cp", System.getProperty("java.class.path"), "-d", out.toString(), source.toString());
        due.is("compiling the calls of README.md by " + type, failed, 0);
        if (failed == 0) {
            compare(type, out);
        }
        Files.deleteIfExists(out.resolve("Readme.class"));
        Files.delete(source);
        Files.delete(out);
    }

    private void compare(String type, Path out) throws Exception {
        List<?> rows;
        try (URLClassLoader loader = new URLClassLoader(new URL[] {out.toUri().toURL()})) {
            rows = (List<?>) loader.loadClass("Readme").getMethod("rows").invoke(null);
        }
        due.is("how many answers", rows.size(), statements.size() - 1);
        for (int i = 0; i < rows.size(); i++) {
            String[] row = (String[]) rows.get(i);
            due.is(type + ": " + statements.get(i + 1) + " is " + row[0], row[0].equals(row[1]), true);
        }
    }

    private void commandsAreThere() {
        due.is("the first command is .ci/run", commands.get(0).equals(".ci/run"), true);
        due.is("it can be run", Files.isExecutable(Path.of(".ci/run")), true);
        for (String command : commands) {
            due.is("only javac and java: " + command, command.matches("(\\.ci/run|javac? .*)"), true);
        }
    }

    private void testsAreNamed(String readme) throws IOException {
        List<String> there = new ArrayList<>();
        try (DirectoryStream<Path> files = Files.newDirectoryStream(Path.of("src/test/java"), "*Test.java")) {
            files.forEach(f -> there.add(f.getFileName().toString().replace(".java", "")));
        }
        for (String name : there) {
            due.is("a row of the table is of " + name, readme.contains("\n| `" + name + "` | "), true);
        }
        Matcher row = Pattern.compile("(?m)^\\| `(\\w+)` ").matcher(readme);
        while (row.find()) {
            due.is("there is a " + row.group(1), there.contains(row.group(1)), true);
        }
    }
}
