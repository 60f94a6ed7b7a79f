import java.io.ByteArrayOutputStream;
import java.io.File;
import java.io.PrintStream;
import java.net.URL;
import java.net.URLClassLoader;
import java.nio.charset.StandardCharsets;
import java.nio.file.Files;
import java.nio.file.Path;
import java.util.ArrayList;
import java.util.List;
import java.util.regex.Matcher;
import java.util.regex.Pattern;
import javax.tools.JavaCompiler;
import javax.tools.ToolProvider;

/** What README.md says is tried as it is written: its program prints what is told, its calls answer what stands behind them. */
public final class ReadmeTest {
    private static final Pattern BLOCK = Pattern.compile("```([a-z]+)\n(.*?)```", Pattern.DOTALL);
    /** A call of the class with its answer behind it. */
    private static final Pattern ANSWERED = Pattern.compile("(x\\.[a-z]+\\(.*\\)); +// (-?\\d+|true|false): .*");
    private static final Pattern CALL = Pattern.compile("x\\.([a-z]+)\\(");

    public static void main(String[] args) throws Exception {
        String page = Files.readString(Path.of("README.md"), StandardCharsets.UTF_8);
        List<String> programs = new ArrayList<>();
        StringBuilder calls = new StringBuilder();
        String printed = "";
        Matcher blocks = BLOCK.matcher(page);
        while (blocks.find()) {
            String block = blocks.group(2);
            if (blocks.group(1).equals("text")) {
                printed += block;
            } else if (blocks.group(1).equals("java") && block.startsWith("public final class ")) {
                programs.add(block);
            } else if (blocks.group(1).equals("java")) {
                calls.append(checked(block));
            }
        }
        Due.due("programs", programs.size(), 1);
        allCallsAreShown(calls.toString());
        File folder = Files.createTempDirectory("readme").toFile();
        write(folder, "Tour", programs.get(0));
        write(folder, "Calls", "public final class Calls {\n public static void main(String[] args) {\n" + calls + " }\n}\n");
        compile(folder, "Tour", "Calls");
        same("what Tour prints", run(folder, "Tour"), printed);
        same("answers that are not as written", run(folder, "Calls"), "");
        remove(folder);
        everyTestIsNamed(page);
        Due.finish("ReadmeTest");
    }

    private static void same(String what, String got, String want) {
        if (!got.equals(want)) {
            System.out.println(what + ": got\n" + got + "due is\n" + want);
            Due.due(what, 1, 0);
        }
    }

    /** A block whose answered calls are printed if they answer something else. */
    private static String checked(String block) {
        StringBuilder all = new StringBuilder();
        for (String line : block.split("\n")) {
            Matcher answered = ANSWERED.matcher(line);
            if (answered.matches()) {
                String call = answered.group(1);
                String want = answered.group(2);
                all.append("if (!String.valueOf(").append(call).append(").equals(\"").append(want).append("\")) { ");
                all.append("System.out.println(\"").append(call).append(" is not ").append(want).append("\"); }\n");
            } else {
                Due.due("a line with a remark that is no answer: " + line, line.contains("//"), false);
                all.append(line).append('\n');
            }
        }
        return all.toString();
    }

    /** Of each call of the face the page shows one with its answer. */
    private static void allCallsAreShown(String calls) {
        List<String> shown = new ArrayList<>();
        Matcher call = CALL.matcher(calls);
        while (call.find()) {
            shown.add(call.group(1));
        }
        for (java.lang.reflect.Method method : FairWheel.class.getDeclaredMethods()) {
            if (java.lang.reflect.Modifier.isPublic(method.getModifiers())) {
                Due.due("the page shows " + method.getName(), shown.contains(method.getName()), true);
            }
        }
    }

    private static void everyTestIsNamed(String page) {
        for (String file : new File("src/test/java").list()) {
            if (file.endsWith("Test.java")) {
                String name = file.substring(0, file.length() - 5);
                Due.due("the page names " + name, page.contains("| " + name + " |"), true);
            }
        }
    }

    private static void write(File folder, String name, String text) throws Exception {
        Files.writeString(new File(folder, name + ".java").toPath(), text, StandardCharsets.UTF_8);
    }

    private static void remove(File folder) {
        for (File file : folder.listFiles()) {
            file.delete();
        }
        folder.delete();
    }

    private static void compile(File folder, String... names) {
        JavaCompiler compiler = ToolProvider.getSystemJavaCompiler();
        List<String> words = new ArrayList<>(List.of("-d", folder.getPath(), "-cp", System.getProperty("java.class.path")));
        for (String name : names) {
            words.add(new File(folder, name + ".java").getPath());
        }
        Due.due("the page's programs compile", compiler.run(null, null, null, words.toArray(new String[0])), 0);
    }

    private static String run(File folder, String name) throws Exception {
        PrintStream before = System.out;
        ByteArrayOutputStream printed = new ByteArrayOutputStream();
        try (URLClassLoader loader = new URLClassLoader(new URL[] {folder.toURI().toURL()})) {
            System.setOut(new PrintStream(printed, true, "UTF-8"));
            loader.loadClass(name).getMethod("main", String[].class).invoke(null, (Object) new String[0]);
        } finally {
            System.setOut(before);
        }
        return printed.toString("UTF-8").replace("\r\n", "\n");
    }
}
