import java.lang.reflect.Constructor;
import java.lang.reflect.Field;
import java.lang.reflect.Method;
import java.lang.reflect.Modifier;
import java.nio.charset.StandardCharsets;
import java.nio.file.Files;
import java.nio.file.Path;
import java.util.ArrayList;
import java.util.Arrays;
import java.util.List;
import java.util.Map;
import java.util.TreeMap;
import java.util.TreeSet;
import java.util.regex.Matcher;
import java.util.regex.Pattern;

/** The public face is the document's, and the source keeps to the rules of the language that can be seen in it. */
public final class FaceTests {
    private static final String[] FACE = {
        "int at(int,int,int)", "int cancel(int)", "boolean close(int,boolean)", "int count(int)", "int days(int)",
        "int deal()", "int differs(int,int)", "int examiner()", "int feed(long,long,long)",
        "boolean held(int,boolean)", "int learner(int,int,int,int,int,boolean)", "boolean leave(int)",
        "int load(int,int)", "int look(int,int)", "int part(int)", "int place(int,int,int,int)",
        "int route(int,int,int,int)", "int routes(int,int,int)", "int shut(int)", "int street(int,int,int,int)",
        "int text()"};
    private static final String[] BANNED = {
        "->", "::", "\\bfinally\\b", "\\bcatch\\b", "\\bsynchronized\\b", "\\bassert\\b", "\\bSystem\\.(?!arraycopy)",
        "\\w+Exact\\b", "\\bdouble\\b", "\\bfloat\\b", "[^\\x00-\\x7f]", "\\bprotected\\b"};
    private static int wrong = 0;

    private static void check(boolean holds, String what) {
        if (!holds) {
            wrong++;
            System.out.println(what);
        }
    }

    public static void main(String[] args) throws Exception {
        outerClass();
        innerClasses();
        source();
        methodsAndCalls();
        readme();
        System.out.println(wrong == 0 ? "the face is the document's" : wrong + " things are not as due");
        if (wrong != 0) {
            System.exit(1);
        }
    }

    private static void outerClass() {
        Class<?> hall = TestHall.class;
        check(Modifier.isPublic(hall.getModifiers()) && Modifier.isFinal(hall.getModifiers()), "public and final");
        TreeSet<String> methods = new TreeSet<>();
        for (Method method : hall.getDeclaredMethods()) {
            if (!Modifier.isPrivate(method.getModifiers())) {
                check(Modifier.isPublic(method.getModifiers()), "not private: " + method);
                methods.add(method.getReturnType() + " " + method.getName() + parameters(method));
            }
        }
        check(methods.equals(new TreeSet<>(Arrays.asList(FACE))), "the methods are " + methods);
        for (Field field : hall.getDeclaredFields()) {
            check(Modifier.isPrivate(field.getModifiers()) || field.getName().equals("NONE"), "not private: " + field);
        }
        Constructor<?>[] constructors = hall.getDeclaredConstructors();
        check(constructors.length == 1 && constructors[0].getParameterCount() == 0, "one constructor");
    }

    private static String parameters(Method method) {
        List<String> names = new ArrayList<>();
        for (Class<?> type : method.getParameterTypes()) {
            names.add(type.getName());
        }
        return "(" + String.join(",", names) + ")";
    }

    private static void innerClasses() {
        TreeSet<String> names = new TreeSet<>();
        for (String method : FACE) {
            names.add(method.substring(method.indexOf(' ') + 1, method.indexOf('(')));
        }
        Class<?>[] inner = TestHall.class.getDeclaredClasses();
        check(inner.length <= 12, "at most twelve classes");
        for (Class<?> one : inner) {
            check(Modifier.isStatic(one.getModifiers()) && !Modifier.isPublic(one.getModifiers()), "open: " + one);
            for (Method method : one.getDeclaredMethods()) {
                check(!names.contains(method.getName()), "bears a name of the face: " + method);
                check(method.getParameterCount() <= 7, "over seven parameters: " + method);
            }
            int fields = 0;
            for (Field field : one.getDeclaredFields()) {
                boolean constant = Modifier.isStatic(field.getModifiers());
                check(!constant || Modifier.isFinal(field.getModifiers()), "a static field that changes: " + field);
                fields += constant ? 0 : 1;
            }
            check(fields <= 20, "over twenty fields: " + one);
        }
    }

    private static String read(String path) throws Exception {
        return new String(Files.readAllBytes(Path.of(path)), StandardCharsets.UTF_8);
    }

    private static String code() throws Exception {
        String whole = read("src/main/java/TestHall.java");
        return whole.replaceAll("(?s)/\\*.*?\\*/", "").replaceAll("//[^\n]*", "");
    }

    private static void source() throws Exception {
        String code = code();
        for (String banned : BANNED) {
            Matcher found = Pattern.compile(banned).matcher(code);
            check(!found.find(), "the source has " + banned);
        }
        Matcher imports = Pattern.compile("(?m)^import (.*);").matcher(code);
        while (imports.find()) {
            boolean listed = imports.group(1).equals("java.util.Arrays")
                    || imports.group(1).equals("java.util.NoSuchElementException");
            check(listed, "imports " + imports.group(1));
        }
    }

    /** Methods of one name are taken as one, which can only make the calls look deeper than they are. */
    private static void methodsAndCalls() throws Exception {
        Pattern method = Pattern.compile("(?ms)^( +)(?:public |private )?(?:static )?\\w+ (\\w+)\\([^;{}]*\\{(.*?)^\\1\\}");
        Map<String, String> bodies = new TreeMap<>();
        Matcher found = method.matcher(code().replaceAll("(?m)^public final class.*$", "")
                .replaceAll("(?m)^    private static final class.*$", ""));
        while (found.find()) {
            bodies.merge(found.group(2), found.group(3), String::concat);
            check(found.group(3).lines().count() <= 60, "over sixty lines: " + found.group(2));
        }
        Map<String, TreeSet<String>> calls = new TreeMap<>();
        for (Map.Entry<String, String> entry : bodies.entrySet()) {
            Matcher called = Pattern.compile("\\b(\\w+)\\(").matcher(entry.getValue());
            calls.put(entry.getKey(), new TreeSet<>());
            while (called.find()) {
                if (bodies.containsKey(called.group(1))) {
                    calls.get(entry.getKey()).add(called.group(1));
                }
            }
        }
        for (String face : FACE) {
            String name = face.substring(face.indexOf(' ') + 1, face.indexOf('('));
            check(calls.containsKey(name), "not found in the source: " + name);
            List<String> deepest = deepestFrom(name, calls, new ArrayList<>());
            check(deepest.size() <= 8, "calls over eight deep: " + deepest);
        }
    }

    /** The longest chain of calls that comes to no method twice: what comes back to one is recursion. */
    private static List<String> deepestFrom(String name, Map<String, TreeSet<String>> calls, List<String> chain) {
        List<String> longer = new ArrayList<>(chain);
        longer.add(name);
        List<String> deepest = longer;
        for (String called : calls.getOrDefault(name, new TreeSet<>())) {
            if (!longer.contains(called)) {
                List<String> through = deepestFrom(called, calls, longer);
                deepest = through.size() > deepest.size() ? through : deepest;
            }
        }
        return deepest;
    }

    private static void readme() throws Exception {
        String readme = read("README.md");
        for (String face : FACE) {
            String name = face.substring(face.indexOf(' ') + 1, face.indexOf('('));
            check(Pattern.compile("`" + name + "\\(").matcher(readme).find(), "README.md does not tell of " + name);
        }
        for (String test : new String[] {"PromiseTests", "BoundaryTests", "ModelTests", "FaceTests", ".ci/run"}) {
            check(readme.contains(test), "README.md does not tell of " + test);
        }
    }
}
