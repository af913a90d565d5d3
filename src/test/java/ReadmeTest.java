import java.lang.reflect.Method;
import java.lang.reflect.Modifier;
import java.nio.file.Files;
import java.nio.file.Path;
import java.util.TreeSet;
import java.util.regex.Matcher;
import java.util.regex.Pattern;

/** README.md tells the truth: its run answers what it says, and its list of calls is that of the class. */
public final class ReadmeTest {
    private static final Pattern LINE = Pattern.compile("(?m)^x\\.(\\w+)\\(([-0-9, ]*)\\); +// (-?\\d+)");
    private static int wrong = 0;

    public static void main(String[] args) throws Exception {
        String page = Files.readString(Path.of("README.md"));
        theRun(page);
        theCalls(page);
        System.out.println(wrong == 0 ? "the page is as due" : wrong + " things are not as due");
        if (wrong != 0) System.exit(1);
    }

    private static void say(String what) {
        wrong++;
        System.out.println(what);
    }

    private static void theRun(String page) throws Exception {
        StormBench x = new StormBench();
        Matcher line = LINE.matcher(page);
        TreeSet<String> used = new TreeSet<>();
        long read = 0;
        while (line.find()) {
            read++;
            int got = call(x, line.group(1), numbers(line.group(2)));
            used.add(line.group(1));
            int want = Integer.parseInt(line.group(3));
            if (got != want) say(line.group().trim() + ": answered " + got);
        }
        for (Method m : StormBench.class.getDeclaredMethods()) {
            boolean shown = used.contains(m.getName());
            if (Modifier.isPublic(m.getModifiers()) && !shown) say("the run does not show " + m.getName());
        }
        long lines = page.lines().filter(l -> l.startsWith("x.")).count();
        if (lines != read) say("not every line of the run has an answer");
    }

    private static int[] numbers(String list) {
        if (list.isBlank()) return new int[0];
        String[] parts = list.split(",");
        int[] all = new int[parts.length];
        for (int i = 0; i < parts.length; i++) all[i] = Integer.parseInt(parts[i].trim());
        return all;
    }

    private static int call(StormBench x, String name, int[] numbers) throws Exception {
        for (Method m : StormBench.class.getDeclaredMethods()) {
            if (!m.getName().equals(name) || m.getParameterCount() != numbers.length) continue;
            Object[] given = new Object[numbers.length];
            for (int i = 0; i < given.length; i++) given[i] = numbers[i];
            return (Integer) m.invoke(x, given);
        }
        say("there is no call " + name + " with " + numbers.length + " numbers");
        return 0;
    }

    private static void theCalls(String page) {
        TreeSet<String> listed = new TreeSet<>();
        Matcher row = Pattern.compile("(?m)^\\| `(\\w+)\\(([\\w, ]*)\\)` \\|").matcher(page);
        while (row.find()) {
            int many = row.group(2).isBlank() ? 0 : row.group(2).split(",").length;
            listed.add(row.group(1) + "/" + many);
        }
        TreeSet<String> there = new TreeSet<>();
        for (Method m : StormBench.class.getDeclaredMethods()) {
            if (Modifier.isPublic(m.getModifiers())) there.add(m.getName() + "/" + m.getParameterCount());
        }
        if (!listed.equals(there)) say("listed are " + listed + ", there are " + there);
    }
}
