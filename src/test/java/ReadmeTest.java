import java.io.File;
import java.lang.reflect.Method;
import java.lang.reflect.Modifier;
import java.net.URL;
import java.net.URLClassLoader;
import java.nio.file.Files;
import java.nio.file.Path;
import java.util.ArrayList;
import java.util.List;
import java.util.Set;
import java.util.TreeSet;
import java.util.regex.Matcher;
import java.util.regex.Pattern;
import javax.tools.JavaCompiler;
import javax.tools.ToolProvider;

/**
 * What README.md shows of the class is tried: the calls of its blocks are made into a program as
 * they stand there, compiled and run, and each must give the answer that its comment begins with.
 */
public final class ReadmeTest {
    private static final Check CHECK = new Check();
    private static final Pattern ANSWER = Pattern.compile("(-?\\d+|NONE|true|false)(:.*)?");
    private static final Pattern NAMED = Pattern.compile("int (\\w+) = .*;", Pattern.DOTALL);
    private static final String BEGIN = "import java.util.ArrayList;\n"
            + "import java.util.List;\n"
            + "public final class ReadmeUse {\n"
            + "static final int NONE = SaidRecord.NONE;\n"
            + "static final List<Object[]> TRIED = new ArrayList<>();\n"
            + "static void tried(String call, int got, int due) {\n"
            + "TRIED.add(new Object[] {call, (long) got, (long) due}); }\n"
            + "static void tried(String call, boolean got, boolean due) {\n"
            + "tried(call, got ? 1 : 0, due ? 1 : 0); }\n";

    /** The helpers that the page shows, and the calls, with what holds their answers to the page. */
    private final StringBuilder helpers = new StringBuilder();
    private final StringBuilder calls = new StringBuilder();
    private final Set<String> called = new TreeSet<>();

    public static void main(String[] args) throws Exception {
        String page = Files.readString(Path.of("README.md"));
        ReadmeTest test = new ReadmeTest();
        CHECK.part("README.md");
        Matcher block = Pattern.compile("(?s)```java\n(.*?)```").matcher(page);
        while (block.find()) {
            if (block.group(1).startsWith("static ")) {
                test.helpers.append(block.group(1));
            } else {
                test.takeCalls(block.group(1));
            }
        }
        test.everyMethodIsShown();
        test.run();
        everyTestIsTold(page);
        CHECK.end();
    }

    /** A call may go over several lines; the comment behind its last one tells the answer. */
    private void takeCalls(String block) {
        StringBuilder call = new StringBuilder();
        for (String line : block.split("\n")) {
            String[] parts = line.split("\\s*// ", 2);
            call.append(call.length() > 0 ? "\n" : "").append(parts[0].strip());
            if (parts[0].endsWith(";")) {
                takeCall(call.toString(), parts.length > 1 ? parts[1] : "");
                call.setLength(0);
            }
        }
        CHECK.due("a call without an end: " + call, call.toString().isBlank(), true);
    }

    private void takeCall(String call, String comment) {
        Matcher method = Pattern.compile("house\\.(\\w+)\\(").matcher(call);
        while (method.find()) {
            called.add(method.group(1));
        }
        Matcher answer = ANSWER.matcher(comment);
        Matcher named = NAMED.matcher(call);
        if (!answer.matches()) {
            boolean mayBeWithout = call.strip().equals("SaidRecord house = new SaidRecord();")
                    || call.strip().equals("house.clear();");
            CHECK.due("no answer is told of " + call, mayBeWithout && comment.isEmpty(), true);
            calls.append(call).append('\n');
        } else if (named.matches()) {
            calls.append(call).append('\n');
            tried(call, named.group(1), answer.group(1));
        } else {
            String value = call.strip();
            tried(call, value.substring(0, value.length() - 1), answer.group(1));
        }
    }

    private void tried(String call, String value, String due) {
        String quoted = call.strip().replace("\\", "\\\\").replace("\"", "\\\"").replace("\n", " ");
        calls.append("tried(\"").append(quoted).append("\", ").append(value).append(", ")
                .append(due).append(");\n");
    }

    private void everyMethodIsShown() {
        for (Method method : SaidRecord.class.getDeclaredMethods()) {
            if (Modifier.isPublic(method.getModifiers())) {
                CHECK.due(method.getName() + "() is shown", called.contains(method.getName()),
                        true);
            }
        }
    }

    private void run() throws Exception {
        Path work = Files.createTempDirectory("readme");
        try {
            Path source = work.resolve("ReadmeUse.java");
            Files.writeString(source, BEGIN + helpers
                    + "public static List<Object[]> run() {\n" + calls + "return TRIED;\n}\n}\n");
            JavaCompiler compiler = ToolProvider.getSystemJavaCompiler();
            int refused = compiler.run(null, System.out, System.out, "-cp",
                    System.getProperty("java.class.path"), "-d", work.toString(),
                    source.toString());
            CHECK.due("the calls compile", refused, 0);
            if (refused == 0) {
                compareAll(work);
            }
        } finally {
            for (File file : work.toFile().listFiles()) {
                file.delete();
            }
            work.toFile().delete();
        }
    }

    private static void compareAll(Path work) throws Exception {
        URL[] urls = {work.toUri().toURL()};
        try (URLClassLoader loader = new URLClassLoader(urls, ReadmeTest.class.getClassLoader())) {
            Method run = loader.loadClass("ReadmeUse").getMethod("run");
            List<?> tried = (List<?>) run.invoke(null);
            CHECK.due("calls are tried", tried.size() > 36, true);
            for (Object one : tried) {
                Object[] call = (Object[]) one;
                CHECK.due((String) call[0], (Long) call[1], (Long) call[2]);
            }
        }
    }

    /** The page's table has each test of the project, and none that is not there. */
    private static void everyTestIsTold(String page) {
        List<String> there = new ArrayList<>();
        for (String file : new File("src/test/java").list()) {
            if (file.endsWith("Test.java")) {
                there.add(file.replace(".java", ""));
                CHECK.due(file + " is told", page.contains("`" + there.get(there.size() - 1) + "`"),
                        true);
            }
        }
        Matcher told = Pattern.compile("`(\\w+Test)`").matcher(page);
        while (told.find()) {
            CHECK.due(told.group(1) + " is there", there.contains(told.group(1)), true);
        }
    }
}
