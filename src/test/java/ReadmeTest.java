import java.io.IOException;
import java.lang.reflect.Method;
import java.lang.reflect.Modifier;
import java.nio.charset.StandardCharsets;
import java.nio.file.Files;
import java.nio.file.Path;
import java.util.ArrayList;
import java.util.Arrays;
import java.util.List;
import java.util.Set;
import java.util.TreeSet;
import java.util.regex.Matcher;
import java.util.regex.Pattern;

/** README.md: what it shows as an example is so when it is run. */
public final class ReadmeTest {
    private static final Due DUE = new Due();
    private static final Pattern ANSWERED = Pattern.compile("(.*?); *// (-?\\d+|true|false)\\b.*");
    private static final Pattern CALL = Pattern.compile("\\bx\\.(\\w+)\\(");
    private static final Pattern FAULT_ROW = Pattern.compile("\\| `([^`]*)` \\| (\\d+) \\| (-?\\d+) \\| .*");
    private static final Pattern TELL_ROW = Pattern.compile("\\| `([^`]*;)` \\| [^0-9].*");

    /** The blocks of a kind, as they stand. */
    private static List<String> blocks(String page, String kind) {
        List<String> blocks = new ArrayList<>();
        Matcher matcher = Pattern.compile("(?ms)^```" + kind + "\n(.*?)^```$").matcher(page);
        while (matcher.find()) {
            blocks.add(matcher.group(1));
        }
        return blocks;
    }

    private static void tells(String page) {
        QuietTake x = new QuietTake();
        int seen = 0;
        for (String line : page.split("\n")) {
            Matcher row = TELL_ROW.matcher(line);
            if (row.matches()) {
                seen++;
                DUE.is("read of " + row.group(1), Feeding.read(x, row.group(1)), 0);
            }
        }
        DUE.is("TELLs shown", seen, 10);
    }

    private static void faults(String page) {
        Set<Integer> seen = new TreeSet<>();
        for (String line : page.split("\n")) {
            Matcher row = FAULT_ROW.matcher(line);
            if (row.matches()) {
                QuietTake x = new QuietTake();
                DUE.is("read of " + row.group(1), Feeding.read(x, row.group(1)), Integer.parseInt(row.group(2)));
                DUE.is("its place", x.place(), Integer.parseInt(row.group(3)));
                seen.add(Integer.parseInt(row.group(2)));
            }
        }
        DUE.is("FAULTS shown: " + seen, seen.equals(Set.of(0, 1, 2, 3, 5)), true);
    }

    /** A program that makes all calls shown, and prints those whose answers are not as shown. */
    private static String programOf(List<String> shown) {
        StringBuilder code = new StringBuilder("public final class Shown {\n"
            + "static int wrong;\n"
            + "static void due(String call, Object got, Object shown) { if (!got.equals(shown)) { wrong++;"
            + " System.out.println(call + \" answered \" + got + \", README.md shows \" + shown); } }\n"
            + "public static void main(String[] args) {\n");
        for (String line : shown) {
            Matcher answered = ANSWERED.matcher(line);
            if (answered.matches()) {
                String call = answered.group(1);
                code.append("due(\"").append(call).append("\", ").append(call).append(", ").append(answered.group(2))
                    .append(");\n");
            } else {
                code.append(line).append('\n');
            }
        }
        return code.append("System.exit(wrong == 0 ? 0 : 1);\n}\n}\n").toString();
    }

    private static void callsShown(List<String> lines) {
        Set<String> shown = new TreeSet<>();
        for (String line : lines) {
            Matcher call = CALL.matcher(line);
            while (call.find()) {
                shown.add(call.group(1));
            }
            boolean made = line.equals("QuietTake x = new QuietTake();");
            DUE.is("an answer is shown: " + line, made || ANSWERED.matcher(line).matches(), true);
        }
        for (Method method : QuietTake.class.getDeclaredMethods()) {
            if (Modifier.isPublic(method.getModifiers())) {
                DUE.is(method.getName() + " is shown", shown.contains(method.getName()), true);
            }
        }
        // Reading the set takes some twenty calls more.
        DUE.is("lines shown: " + lines.size() + ", 400 at most", lines.size() <= 400, true);
    }

    /** What a command prints; its exit code must be 0. */
    private static String run(String... command) throws IOException, InterruptedException {
        Process process = new ProcessBuilder(command).redirectErrorStream(true).start();
        String printed = new String(process.getInputStream().readAllBytes(), StandardCharsets.UTF_8);
        int code = process.waitFor();
        DUE.is(String.join(" ", command) + ":\n" + printed + "exit code", code, 0);
        return printed;
    }

    private static void programs(String example, String prints, List<String> shown)
        throws IOException, InterruptedException {
        Path folder = Files.createTempDirectory("readme");
        Path examplePath = folder.resolve("Example.java");
        Path shownPath = folder.resolve("Shown.java");
        String classes = System.getProperty("java.class.path") + System.getProperty("path.separator") + folder;
        try {
            Files.writeString(examplePath, example);
            Files.writeString(shownPath, programOf(shown));
            run("javac", "-cp", classes, "-d", folder.toString(), examplePath.toString(), shownPath.toString());
            String printed = run("java", "-cp", classes, "Example");
            DUE.is("Example prints\n" + printed + "which is what is shown", printed.equals(prints), true);
            run("java", "-cp", classes, "Shown");
        } finally {
            try (var files = Files.list(folder)) {
                for (Path file : files.toList()) {
                    Files.delete(file);
                }
            }
            Files.delete(folder);
        }
    }

    public static void main(String[] args) throws IOException, InterruptedException {
        String page = Files.readString(Path.of("README.md"));
        List<String> code = blocks(page, "java");
        List<String> texts = blocks(page, "text");
        DUE.is("a block of code", code.isEmpty(), false);
        DUE.is("blocks of text", texts.size(), 1);
        if (!code.isEmpty() && texts.size() == 1) {
            List<String> shown = Arrays.asList(String.join("", code.subList(1, code.size())).split("\n"));
            tells(page);
            faults(page);
            callsShown(shown);
            programs(code.get(0), texts.get(0), shown);
        }
        DUE.end();
    }
}
