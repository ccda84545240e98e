import java.io.ByteArrayOutputStream;
import java.io.IOException;
import java.io.PrintStream;
import java.lang.reflect.Method;
import java.lang.reflect.Modifier;
import java.net.URL;
import java.net.URLClassLoader;
import java.nio.file.DirectoryStream;
import java.nio.file.Files;
import java.nio.file.Path;
import java.util.ArrayList;
import java.util.Comparator;
import java.util.List;
import java.util.TreeSet;
import java.util.regex.Matcher;
import java.util.regex.Pattern;
import java.util.stream.Stream;
import javax.tools.JavaCompiler;
import javax.tools.ToolProvider;

/** What README.md shows: its program prints what it says, its calls answer what stands behind them. */
public final class ReadmeTest {
    private static final Pattern CALL = Pattern.compile("(\\w+\\.\\w+\\(.*\\)); +// (-?\\d+|true|false)(:.*)?");
    private static final Pattern MADE = Pattern.compile("BlazedPath \\w+ = new BlazedPath\\(\\);");

    private static int wrong = 0;
    private static int asked = 0;

    /** What stands between two fences, and which line of the page it begins at. */
    private static final class Block {
        final String kind;
        final int line;
        final List<String> lines = new ArrayList<>();

        Block(String kind, int line) {
            this.kind = kind;
            this.line = line;
        }

        String text() {
            return String.join("\n", lines) + "\n";
        }

        boolean isProgram() {
            return kind.equals("java") && text().contains("class ");
        }
    }

    private static void must(boolean holds, String what) {
        asked++;
        if (!holds) {
            wrong++;
            System.out.println("not so: " + what);
        }
    }

    /** The compiled calls of the page come here, so that they need nothing else of this test. */
    public static void due(int line, String call, long got, long want) {
        must(got == want, "README.md line " + line + ": " + call + " answered " + got + ", shown is " + want);
    }

    public static void due(int line, String call, boolean got, boolean want) {
        must(got == want, "README.md line " + line + ": " + call + " answered " + got + ", shown is " + want);
    }

    private static List<Block> blocksOf(List<String> page) {
        List<Block> blocks = new ArrayList<>();
        Block open = null;
        for (int i = 0; i < page.size(); i++) {
            String line = page.get(i);
            if (!line.startsWith("```")) {
                if (open != null) {
                    open.lines.add(line);
                }
            } else if (open == null) {
                open = new Block(line.substring(3), i + 2);
            } else {
                blocks.add(open);
                open = null;
            }
        }
        must(open == null, "each block of README.md ends");
        return blocks;
    }

    private static boolean compile(List<String> arguments) {
        JavaCompiler compiler = ToolProvider.getSystemJavaCompiler();
        return compiler != null && compiler.run(null, null, null, arguments.toArray(new String[0])) == 0;
    }

    /** A javac line of the page, with what it writes and the page's own program put under a directory. */
    private static void compileAsShown(String command, Path room, String program) {
        List<String> arguments = new ArrayList<>();
        for (String word : command.split(" ")) {
            boolean isOurs = word.equals("out") || word.equals(program + ".java");
            arguments.add(isOurs ? room.resolve(word).toString() : word);
        }
        arguments.remove(0);
        must(compile(arguments), "README.md: " + command);
    }

    private static void commands(List<Block> blocks, Path room, String program) {
        TreeSet<String> run = new TreeSet<>();
        for (Block block : blocks) {
            for (String line : block.kind.equals("sh") ? block.lines : new ArrayList<String>()) {
                if (line.startsWith("javac ")) {
                    compileAsShown(line, room, program);
                } else if (line.startsWith("java -cp out ")) {
                    String name = line.substring("java -cp out ".length());
                    run.add(name);
                    must(Files.exists(room.resolve("out").resolve(name + ".class")), "compiled ahead of it: " + line);
                } else {
                    must(Files.isExecutable(Path.of(line)), "README.md: " + line);
                    run.add(line);
                }
            }
        }
        must(run.contains(program), "README.md says how its program is run");
        must(run.contains(".ci/run"), "README.md says how the tests are run");
    }

    private static String printedBy(Class<?> program) throws ReflectiveOperationException {
        PrintStream before = System.out;
        ByteArrayOutputStream bytes = new ByteArrayOutputStream();
        System.setOut(new PrintStream(bytes, true));
        try {
            Method main = program.getMethod("main", String[].class);
            main.invoke(null, (Object) new String[0]);
        } finally {
            System.setOut(before);
        }
        return bytes.toString().replace(System.lineSeparator(), "\n");
    }

    /** The examples as one class: each block a method of its own, each call asked for the answer behind it. */
    private static String callsOf(List<Block> blocks) {
        StringBuilder body = new StringBuilder("public final class ReadmeCalls {\n");
        StringBuilder all = new StringBuilder("    public static void main(String[] args) {\n");
        for (Block block : blocks) {
            if (!block.kind.equals("java") || block.isProgram()) {
                continue;
            }
            all.append("        block").append(block.line).append("();\n");
            body.append("    static void block").append(block.line).append("() {\n");
            for (int i = 0; i < block.lines.size(); i++) {
                body.append("        ").append(asked(block.lines.get(i), block.line + i)).append('\n');
            }
            body.append("    }\n");
        }
        return body.append(all).append("    }\n}\n").toString();
    }

    private static String asked(String line, int number) {
        Matcher call = CALL.matcher(line);
        if (call.matches()) {
            String told = call.group(1).replace("\\", "\\\\").replace("\"", "\\\"");
            return "ReadmeTest.due(" + number + ", \"" + told + "\", " + call.group(1) + ", " + call.group(2) + ");";
        }
        must(MADE.matcher(line).matches(), "README.md line " + number + " is a call with its answer: " + line);
        return line;
    }

    private static void program(List<Block> blocks, Path room) throws IOException, ReflectiveOperationException {
        String name = null;
        String shown = null;
        for (Block block : blocks) {
            if (block.isProgram()) {
                must(name == null, "README.md has one program");
                Matcher told = Pattern.compile("public final class (\\w+) ").matcher(block.text());
                name = told.find() ? told.group(1) : "none";
                Files.writeString(room.resolve(name + ".java"), block.text());
            } else if (block.kind.equals("text")) {
                must(shown == null, "README.md has one output");
                shown = block.text();
            }
        }
        must(name != null && shown != null, "README.md has a program and what it prints");
        Path out = Files.createDirectory(room.resolve("out"));
        commands(blocks, room, name);
        Path calls = room.resolve("ReadmeCalls.java");
        Files.writeString(calls, callsOf(blocks));
        String path = out + System.getProperty("path.separator") + System.getProperty("java.class.path");
        must(compile(List.of("-cp", path, "-d", out.toString(), calls.toString())), "the calls of README.md compile");
        if (wrong > 0) {
            return;
        }
        try (URLClassLoader loader = new URLClassLoader(new URL[] {out.toUri().toURL()})) {
            String printed = printedBy(loader.loadClass(name));
            must(printed.equals(shown), "README.md shows\n" + shown + "but " + name + " prints\n" + printed);
            loader.loadClass("ReadmeCalls").getMethod("main", String[].class).invoke(null, (Object) new String[0]);
        }
    }

    /** Every call with its promise's number, every test by its name. */
    private static void names(String page) throws IOException {
        Matcher promise = Pattern.compile("(?m)^## Promise (\\d+): (\\w+)$").matcher(Files.readString(Path.of("../shared/DOC.md")));
        TreeSet<String> told = new TreeSet<>();
        while (promise.find()) {
            told.add(promise.group(2));
            must(page.contains("`" + promise.group(2) + "` (" + promise.group(1) + ")"), "README.md names promise " + promise.group());
        }
        for (Method m : BlazedPath.class.getDeclaredMethods()) {
            must(!Modifier.isPublic(m.getModifiers()) || told.contains(m.getName()), "a promise of " + m.getName());
        }
        try (DirectoryStream<Path> tests = Files.newDirectoryStream(Path.of("src/test/java"), "*.java")) {
            for (Path test : tests) {
                String name = test.getFileName().toString().replace(".java", "");
                must(page.contains("`" + name + "`"), "README.md names the test " + name);
            }
        }
    }

    private static void remove(Path room) throws IOException {
        try (Stream<Path> all = Files.walk(room)) {
            for (Path one : (Iterable<Path>) all.sorted(Comparator.reverseOrder())::iterator) {
                Files.delete(one);
            }
        }
    }

    public static void main(String[] args) throws IOException, ReflectiveOperationException {
        List<String> page = Files.readAllLines(Path.of("README.md"));
        Path room = Files.createTempDirectory("readme");
        try {
            program(blocksOf(page), room);
        } finally {
            remove(room);
        }
        names(String.join("\n", page));
        System.out.println(wrong == 0 ? "README.md is so: " + asked + " things asked" : wrong + " things of README.md are not so");
        if (wrong != 0) {
            System.exit(1);
        }
    }
}
