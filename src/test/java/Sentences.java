import java.io.IOException;
import java.nio.file.Files;
import java.nio.file.Path;
import java.util.Map;
import java.util.TreeMap;
import java.util.regex.Matcher;
import java.util.regex.Pattern;

/**
 * The sentences of DOC.md. A test names the one that it holds the class to; the words must stand there as they are
 * named, in the promise or in the terms, and at the end no word of either may be left that no test named.
 */
final class Sentences {
    private static final int TERMS = 0;

    private final Check check = new Check();
    private final Map<Integer, String> texts = new TreeMap<>();
    private final Map<Integer, boolean[]> named = new TreeMap<>();
    private String test = "";
    private int tests;

    Sentences(Path document) throws IOException {
        String all = Files.readString(document).replace("```text", " ").replace("```", " ");
        // The document's first heading breaks off within the sentence that the terms go on with.
        String cells = between(all, "======== 1 ", "\n\n");
        String terms = between(all, "## Terms", "\n## ");
        String plain = terms.replaceAll("Ahead of the calls [^\n]* the interface says: ", " ");
        keep(TERMS, cells + " " + plain.replaceAll("---- [a-z, ]+\\.\n", "\n"));
        Matcher promise = Pattern.compile("## Promise (\\d+): [^\n]*\n\n`[^`]*`: ([^\n]*)\n").matcher(all);
        while (promise.find()) {
            keep(Integer.parseInt(promise.group(1)), promise.group(2));
        }
        check.due("promises found", texts.size() - 1, 43);
    }

    private static String between(String all, String from, String to) {
        int start = all.indexOf(from) + from.length();
        return all.substring(start, all.indexOf(to, start));
    }

    private void keep(int promise, String text) {
        String plain = text.replaceAll("=====+ \\d+ ", " ").replaceAll("\\s+", " ").trim();
        texts.put(promise, plain);
        named.put(promise, new boolean[plain.length()]);
    }

    /** The test that begins here is of these words. */
    void says(int promise, String words) {
        tests++;
        test = "promise " + promise + ", \"" + words + "\": ";
        boolean own = mark(promise, words);
        check.holds(test + "the document says so", own || mark(TERMS, words));
    }

    private boolean mark(int promise, String words) {
        String text = texts.getOrDefault(promise, "");
        boolean found = false;
        for (int at = text.indexOf(words); at >= 0; at = text.indexOf(words, at + 1)) {
            found = true;
            for (int i = at; i < at + words.length(); i++) {
                named.get(promise)[i] = true;
            }
        }
        return found;
    }

    void due(String call, long got, long want) {
        check.due(test + call, got, want);
    }

    void holds(String what, boolean so) {
        check.holds(test + what, so);
    }

    void end() {
        for (int promise : texts.keySet()) {
            String left = unnamed(promise);
            check.holds((promise == TERMS ? "the terms" : "promise " + promise) + ": no test names" + left, left.isEmpty());
        }
        System.out.println(tests + " tests of sentences");
        check.end();
    }

    private String unnamed(int promise) {
        String text = texts.get(promise);
        StringBuilder left = new StringBuilder();
        boolean gap = true;
        for (int i = 0; i < text.length(); i++) {
            if (named.get(promise)[i] || !Character.isLetterOrDigit(text.charAt(i))) {
                gap = true;
                continue;
            }
            left.append(gap ? " " : "").append(text.charAt(i));
            gap = false;
        }
        return left.toString();
    }
}
