import java.lang.reflect.Constructor;
import java.lang.reflect.Field;
import java.lang.reflect.Method;
import java.lang.reflect.Modifier;
import java.nio.file.Files;
import java.nio.file.Path;
import java.util.ArrayList;
import java.util.Arrays;
import java.util.List;
import java.util.Map;
import java.util.Set;
import java.util.TreeMap;
import java.util.TreeSet;
import java.util.regex.Matcher;
import java.util.regex.Pattern;

/** The rules of LANGUAGE.md that can be seen from the classes, or from the source's signs. */
public final class LanguageTest {
    private static final Check CHECK = new Check();
    private static final String[] FACE = {"int feed(int,int,int,int,int)", "int back(int)",
            "int read()", "int place()", "int line(int,int,int,int,int)",
            "int reads(int,int,int,int,int,int)", "int sits(int,int,int)", "int office(int,int)",
            "int paper(int,int,int)", "int fact(int,int,int,int)", "int rename(int,int,int)",
            "int vote(int,int,int,int)", "int rules(int)", "int rule(int,int,int)",
            "int who(int,int,int)", "int printed(int,int,int,int)", "int mended(int,int)",
            "int bar(int,int)", "int lines(int,int,int)", "int at(int,int,int,int)",
            "int court(int,int,int)", "int take(int,int)", "void clear()", "int join()",
            "int joined(int)", "int apart(int,int)", "int sum(int,int,int)", "int doubles(int,int)",
            "int moved(int,int)", "boolean reporter(int,int,int)", "int roster(int,int)",
            "int turn(int)", "int names(int,int,int)", "int found(int,int,int,int)",
            "int same(int,int,int,int)", "int count(int)"};
    /** What no line of the program may have: rules 2, 3, 4, 6, 10 and 13. */
    private static final String[] FORBIDDEN = {"\\bthrow\\b", "\\bthrows\\b", "\\btry\\b",
            "\\bcatch\\b", "\\bsynchronized\\b", "\\bassert\\b", "->", "::", "Exact\\b",
            "\\bimport\\b", "\\bpackage\\b", "\\bhashCode\\b",
            "\\bequals\\b", "\\btoString\\b", "\\bThread\\b",
            "\\bRandom\\b", "System\\.(?!arraycopy\\b)", "Math\\.(?!(max|min|abs)\\()",
            "\"\\s*\\+", "\\+\\s*\"", "\\bprotected\\b", "\\bnew\\s+[A-Za-z]+\\([^)]*\\)\\s*\\{"};

    public static void main(String[] args) throws Exception {
        face();
        List<Class<?>> classes = new ArrayList<>();
        classes.addAll(Arrays.asList(SaidRecord.class.getDeclaredClasses()));
        for (Class<?> inner : classes) {
            CHECK.part(inner.getSimpleName());
            CHECK.due("static", Modifier.isStatic(inner.getModifiers()), true);
            CHECK.due("public or protected",
                    (inner.getModifiers() & (Modifier.PUBLIC | Modifier.PROTECTED)) != 0, false);
            CHECK.due("classes within", inner.getDeclaredClasses().length, 0);
        }
        classes.add(SaidRecord.class);
        CHECK.part("the file");
        CHECK.due("at most twelve classes", classes.size() <= 12, true);
        for (Class<?> one : classes) {
            shape(one);
        }
        String text = Files.readString(Path.of("src/main/java/SaidRecord.java"));
        source(text);
        depth(text);
        CHECK.end();
    }

    private static void face() {
        CHECK.part("the face");
        int modifiers = SaidRecord.class.getModifiers();
        CHECK.due("public and final",
                Modifier.isPublic(modifiers) && Modifier.isFinal(modifiers), true);
        Set<String> shown = new TreeSet<>();
        Set<String> publicNames = new TreeSet<>();
        Set<String> hiddenNames = new TreeSet<>();
        for (Method method : SaidRecord.class.getDeclaredMethods()) {
            if (Modifier.isPrivate(method.getModifiers())) {
                hiddenNames.add(method.getName());
                continue;
            }
            publicNames.add(method.getName());
            StringBuilder text = new StringBuilder(method.getReturnType() + " " + method.getName());
            String types = Arrays.toString(method.getParameterTypes()).replaceAll("[\\[\\] ]", "");
            shown.add(text.append('(').append(types).append(')').toString());
            CHECK.due(method + " is public and no more", method.getModifiers(), Modifier.PUBLIC);
            CHECK.due(method + " declares to throw", method.getExceptionTypes().length, 0);
        }
        Set<String> due = new TreeSet<>(Arrays.asList(FACE));
        CHECK.due("methods " + shown, shown.equals(due), true);
        for (Class<?> inner : SaidRecord.class.getDeclaredClasses()) {
            for (Method method : inner.getDeclaredMethods()) {
                hiddenNames.add(method.getName());
            }
        }
        hiddenNames.retainAll(publicNames);
        CHECK.due("hidden methods with public names " + hiddenNames, hiddenNames.size(), 0);
        List<String> constants = new ArrayList<>();
        for (Field field : SaidRecord.class.getDeclaredFields()) {
            CHECK.due(field.getName() + " is private, but for NONE",
                    Modifier.isPrivate(field.getModifiers()), !field.getName().equals("NONE"));
            if (field.getName().equals("NONE")) {
                constants.add(Modifier.toString(field.getModifiers()) + " " + field.getType());
            }
        }
        CHECK.due("constants " + constants,
                constants.equals(Arrays.asList("public static final int")), true);
        CHECK.due("above it there is Object alone", SaidRecord.class.getSuperclass() == Object.class
                && SaidRecord.class.getInterfaces().length == 0, true);
        Constructor<?>[] constructors = SaidRecord.class.getDeclaredConstructors();
        CHECK.due("constructors", constructors.length, 1);
        CHECK.due("its parameters", constructors[0].getParameterCount(), 0);
        CHECK.due("it is public", Modifier.isPublic(constructors[0].getModifiers()), true);
    }

    private static void shape(Class<?> one) {
        CHECK.part(one.getSimpleName());
        int fields = 0;
        for (Field field : one.getDeclaredFields()) {
            int modifiers = field.getModifiers();
            fields += Modifier.isStatic(modifiers) ? 0 : 1;
            CHECK.due(field.getName() + " is static and may change",
                    Modifier.isStatic(modifiers) && !Modifier.isFinal(modifiers), false);
        }
        CHECK.due("at most twenty fields", fields <= 20, true);
        for (Method method : one.getDeclaredMethods()) {
            CHECK.due(method.getName() + " has at most seven parameters",
                    method.getParameterCount() <= 7, true);
        }
    }

    /** Who calls whom, by names alone: methods of one name count as one, so none is missed. */
    private static void depth(String text) {
        CHECK.part("the depth of calls");
        Map<String, StringBuilder> bodies = new TreeMap<>();
        Matcher method = Pattern.compile("(?ms)^( {4}(?: {4})?)(?:(?:public|private|static) )*"
                + "(?:int|long|boolean|void) (\\w+)\\([^)]*\\) \\{$(.*?)^\\1\\}$").matcher(text);
        while (method.find()) {
            bodies.computeIfAbsent(method.group(2), x -> new StringBuilder());
            bodies.get(method.group(2)).append(method.group(3));
        }
        CHECK.due("methods found", bodies.size() > 100, true);
        Map<String, Set<String>> calls = new TreeMap<>();
        for (String name : bodies.keySet()) {
            Set<String> called = calls.computeIfAbsent(name, x -> new TreeSet<>());
            Matcher call = Pattern.compile("(\\w+)\\(").matcher(bodies.get(name));
            while (call.find()) {
                if (bodies.containsKey(call.group(1)) && !call.group(1).equals(name)) {
                    called.add(call.group(1));
                }
            }
        }
        for (String name : calls.keySet()) {
            int deep = deep(name, calls, 0);
            CHECK.due(name + "() goes " + deep + " deep", deep <= 8, true);
        }
    }

    private static int deep(String name, Map<String, Set<String>> calls, int above) {
        int most = 0;
        for (String other : calls.get(name)) {
            most = Math.max(most, above > 20 ? 20 : deep(other, calls, above + 1));
        }
        return 1 + most;
    }

    private static void source(String text) {
        CHECK.part("the source");
        for (char sign : text.toCharArray()) {
            if (sign > 127) {
                CHECK.due("sign " + (int) sign, 1, 0);
            }
        }
        String code = text.replaceAll("(?s)/\\*.*?\\*/", "").replaceAll("//[^\n]*", "");
        for (String pattern : FORBIDDEN) {
            Matcher matcher = Pattern.compile(pattern).matcher(code);
            CHECK.due(pattern, matcher.find(), false);
        }
        int begun = 0;
        String[] lines = text.split("\n");
        for (int i = 0; i < lines.length; i++) {
            if (lines[i].matches(" {4}(    )?\\S.*\\) \\{") && !lines[i].contains(" class ")) {
                begun = i;
            }
            if (lines[i].matches(" {4}(    )?\\}")) {
                CHECK.due("the method that ends on line " + (i + 1) + " is short", i - begun < 60
                        || begun == 0 || lines[i].length() == 5, true);
            }
            CHECK.due("line " + (i + 1) + " is short", lines[i].length() <= 100, true);
        }
    }
}
