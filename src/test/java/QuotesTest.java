import java.nio.file.Files;
import java.nio.file.Path;
import java.util.ArrayList;
import java.util.List;
import java.util.regex.Matcher;
import java.util.regex.Pattern;

/** What the tests quote stands in the document, word for word; and no more than a few words lie between the quotes. */
public final class QuotesTest {
    private static final String[] TESTS = {"SentencesTest", "EdgesOfNumbersTest", "EdgesOfJobsTest", "EdgesOfATickTest",
        "EdgesOfTrialsTest"};
    /** A few words between two quotes ("it is", "NONE.") say nothing by themselves. */
    private static final int LONGEST_LEFT = 24;
    private static final Pattern TEXT = Pattern.compile("\"((?:[^\"\\\\]|\\\\.)*)\"");
    private static int wrong = 0;

    public static void main(String[] args) throws Exception {
        String document = promised(Files.readString(Path.of("../shared/DOC.md")));
        List<String> texts = new ArrayList<>();
        for (String test : TESTS) {
            String source = Files.readString(Path.of("src/test/java/" + test + ".java")).replaceAll("\"\\s*\\+\\s*\"", "");
            quotesStandThere(test, source, document);
            for (Matcher m = TEXT.matcher(source); m.find();) texts.add(m.group(1));
        }
        allIsQuoted(document, texts);
        System.out.println(wrong == 0 ? "all quotes are as due" : wrong + " things are not as due");
        if (wrong != 0) System.exit(1);
    }

    /** The document in one line, from its first promise of state on, without headings and what isn't promised. */
    private static String promised(String whole) {
        String text = whole.replaceAll("(?s)## Not promised.*", "").replaceAll("(?s)```java.*?```", " ");
        text = text.replaceAll("(?m)^#.*$", " ").replaceAll("(?m)^Ahead of the calls.*$", " ");
        text = text.replaceAll("(?m)^```(text)?$", " ").replaceAll("`[^`\n]*`: ", " ").replaceAll("\\s+", " ");
        return text.substring(Math.max(0, text.indexOf("======== 1")));
    }

    private static void quotesStandThere(String test, String source, String document) {
        Matcher quote = Pattern.compile("due\\.by\\(\\d+, " + TEXT.pattern()).matcher(source);
        int found = 0;
        while (quote.find()) {
            found++;
            if (!document.contains(quote.group(1))) say(test + " quotes what is not there: " + quote.group(1));
        }
        if (found == 0) say(test + " quotes nothing");
    }

    private static void allIsQuoted(String document, List<String> texts) {
        char[] left = document.toCharArray();
        for (String text : texts) {
            // Shorter ones ("most", "STATE") are the tests' own words.
            if (text.length() < 9) continue;
            for (int at = document.indexOf(text); at >= 0; at = document.indexOf(text, at + 1)) {
                for (int i = 0; i < text.length(); i++) left[at + i] = '\n';
            }
        }
        for (String part : new String(left).split("\n+")) {
            if (part.trim().length() > LONGEST_LEFT) say("no test quotes: " + part.trim());
        }
    }

    private static void say(String what) {
        wrong++;
        System.out.println(what);
    }
}
