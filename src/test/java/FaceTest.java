import java.lang.reflect.Constructor;
import java.lang.reflect.Field;
import java.lang.reflect.Method;
import java.lang.reflect.Modifier;
import java.nio.file.Files;
import java.nio.file.Path;
import java.util.ArrayList;
import java.util.List;
import java.util.TreeSet;
import java.util.regex.Matcher;
import java.util.regex.Pattern;

/** The document's face, and those rules of LANGUAGE.md that can be told from the class and its text. */
public final class FaceTest {
    private static final String[] METHODS = {"service/3", "rule/3", "guests/2", "crowd/3", "usual/1", "place/3",
        "ticks/1", "about/2", "ruleOf/2", "kept/2", "job/2", "row/2", "guest/2", "count/1", "rest/1", "bears/2",
        "best/4", "price/0"};
    private static final String[] WORDS = {"throw", "throws", "try", "catch", "synchronized", "assert", "->", "::",
        "Random", "Thread", "currentTimeMillis", "nanoTime", "Exact", "Object", "HashMap", "protected"};
    private static int wrong = 0;

    public static void main(String[] args) throws Exception {
        face();
        constants();
        inside();
        text();
        depth();
        System.out.println(wrong == 0 ? "the face is as due" : wrong + " things are not as due");
        if (wrong != 0) System.exit(1);
    }

    private static void due(boolean good, String what) {
        if (!good) {
            wrong++;
            System.out.println("not so: " + what);
        }
    }

    private static void face() {
        Class<StormBench> c = StormBench.class;
        due(Modifier.isPublic(c.getModifiers()) && Modifier.isFinal(c.getModifiers()), "public and final");
        Constructor<?>[] made = c.getDeclaredConstructors();
        due(made.length == 1 && made[0].getParameterCount() == 0 && Modifier.isPublic(made[0].getModifiers()),
            "one public constructor");
        TreeSet<String> want = new TreeSet<>(List.of(METHODS));
        TreeSet<String> got = new TreeSet<>();
        for (Method m : c.getDeclaredMethods()) {
            if (Modifier.isPrivate(m.getModifiers())) {
                due(!isFace(m.getName()), "no private method bears a public one's name: " + m);
                continue;
            }
            due(Modifier.isPublic(m.getModifiers()) && !Modifier.isStatic(m.getModifiers()), "public: " + m);
            due(m.getReturnType() == int.class, "answers an int: " + m);
            for (Class<?> p : m.getParameterTypes()) due(p == int.class, "takes ints: " + m);
            got.add(m.getName() + "/" + m.getParameterCount());
        }
        due(got.equals(want), "the document's methods: " + got);
    }

    private static boolean isFace(String name) {
        for (String m : METHODS) if (m.startsWith(name + "/")) return true;
        return false;
    }

    private static void constants() throws Exception {
        String[] names = {"NONE", "FULL", "STATE", "NEVER"};
        int open = 0;
        for (Field f : StormBench.class.getDeclaredFields()) if (!Modifier.isPrivate(f.getModifiers())) open++;
        due(open == names.length, "no other constant");
        for (int i = 0; i < names.length; i++) {
            Field f = StormBench.class.getDeclaredField(names[i]);
            due(Modifier.isPublic(f.getModifiers()) && Modifier.isStatic(f.getModifiers())
                && Modifier.isFinal(f.getModifiers()) && f.getInt(null) == -1 - i, names[i]);
        }
    }

    private static void inside() {
        Class<?>[] all = StormBench.class.getDeclaredClasses();
        due(all.length <= 12, "some twelve classes");
        for (Class<?> c : all) {
            due(Modifier.isStatic(c.getModifiers()) && !Modifier.isPublic(c.getModifiers()), "static: " + c);
            int own = 0;
            for (Field f : c.getDeclaredFields()) if (!Modifier.isStatic(f.getModifiers())) own++;
            due(own <= 20, "some twenty fields: " + c);
            for (Method m : c.getDeclaredMethods()) {
                due(!isFace(m.getName()), "no method inside bears a public one's name: " + m);
                due(m.getParameterCount() <= 7, "seven parameters: " + m);
            }
        }
    }

    private static String withoutComments() throws Exception {
        String text = Files.readString(Path.of("src/main/java/StormBench.java"));
        return text.replaceAll("(?s)/\\*.*?\\*/", "").replaceAll("//[^\n]*", "");
    }

    private static void text() throws Exception {
        String text = withoutComments();
        for (String word : WORDS) {
            boolean letters = Character.isLetter(word.charAt(0));
            String search = letters ? "\\b" + word + "\\b" : Pattern.quote(word);
            due(!Pattern.compile(search).matcher(text).find(), "the text is without " + word);
        }
        due(text.chars().allMatch(c -> c < 128), "plain signs alone");
        due(!Pattern.compile("(?m)^package").matcher(text).find(), "no package");
        due(!Pattern.compile("\\bwhile\\b").matcher(text).find(), "all loops have counters");
        Matcher made = Pattern.compile("(?m)^import (.*);").matcher(text);
        while (made.find()) due(made.group(1).equals("java.util.Arrays"), "imports what is listed: " + made.group(1));
    }

    /** Methods by their names, those of one name taken as one: who calls whom, and how deep at most. */
    private static void depth() throws Exception {
        String text = withoutComments();
        Matcher head = Pattern.compile("(?m)^ +(?:private |public )?(?:static )?(?:int|void|boolean) (\\w+)\\([^)]*\\) \\{")
            .matcher(text);
        List<String> names = new ArrayList<>();
        List<Integer> starts = new ArrayList<>();
        while (head.find()) {
            names.add(head.group(1));
            starts.add(head.end());
        }
        List<String> bodies = new ArrayList<>();
        for (int i = 0; i < names.size(); i++) {
            int end = i + 1 < names.size() ? starts.get(i + 1) : text.length();
            bodies.add(body(text, starts.get(i), end));
            due(bodies.get(i).split("\n").length <= 60, "some sixty lines: " + names.get(i));
        }
        for (String m : METHODS) {
            String name = m.substring(0, m.indexOf('/'));
            int deep = deepest(names.indexOf(name), names, bodies, 0);
            due(deep <= 8, "at most eight deep: " + name + " goes " + deep);
        }
    }

    private static String body(String text, int start, int end) {
        int open = 1;
        int at = start;
        while (at < end && open > 0) {
            if (text.charAt(at) == '{') open++;
            if (text.charAt(at) == '}') open--;
            at++;
        }
        return text.substring(start, at);
    }

    private static int deepest(int method, List<String> names, List<String> bodies, int level) {
        if (level > 30) return level;
        int deepest = 1;
        Matcher call = Pattern.compile("(\\w*)\\.?\\b(\\w+)\\(").matcher(bodies.get(method));
        while (call.find()) {
            boolean library = call.group(1).equals("Math") || call.group(1).equals("System") || call.group(1).equals("Arrays");
            if (library) deepest = Math.max(deepest, 2);
            for (int i = 0; i < names.size() && !library; i++) {
                // copyFrom() calls those of other classes, not itself.
                boolean same = i == method;
                if (names.get(i).equals(call.group(2)) && !same && !names.get(method).equals(call.group(2))) {
                    deepest = Math.max(deepest, 1 + deepest(i, names, bodies, level + 1));
                }
            }
        }
        return deepest;
    }
}
