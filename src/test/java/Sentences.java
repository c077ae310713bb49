import java.io.IOException;
import java.nio.file.Files;
import java.nio.file.Path;
import java.util.regex.Matcher;
import java.util.regex.Pattern;

/**
 * The document's sentences, each with the answers that it asks for. A sentence is told by its part ("Terms 1" ..
 * "Terms 3", "Promise 1" .. "Promise 41", "What it is") and its words, which must stand there; at the end no word of
 * the Terms and the promises may be left over.
 */
final class Sentences {
    private final String name;
    private final String doc;
    private final boolean[] told;
    private String sentence = "";
    private int answers;
    private int sentences;
    private int right;
    private int wrong;

    Sentences(String name) throws IOException {
        this.name = name;
        Path path = Path.of("../shared/DOC.md");
        doc = Files.exists(path) ? Files.readString(path) : "";
        if (doc.isEmpty()) {
            System.out.println(name + ": there is no " + path + ", so that only the answers are looked at");
        }
        told = new boolean[doc.length()];
        // No sentences: headings, names and heads of calls in ` `, and the lines on the groups of calls.
        tellAll("(?m)^(?:## |```|Ahead of the calls ).*$");
        tellAll("==== [123]|The constants:|`[^`\n]*`");
    }

    private void tellAll(String words) {
        Matcher m = Pattern.compile(words).matcher(doc);
        while (m.find()) {
            tell(m.start(), m.end());
        }
    }

    private void tell(int from, int to) {
        for (int i = from; i < to; i++) {
            told[i] = true;
        }
    }

    /** What is due from here on stands for these words. */
    void says(String part, String words) {
        endSentence();
        sentence = part + ", \"" + words + "\"";
        answers = 0;
        sentences++;
        if (!doc.isEmpty()) {
            find(part, words);
        }
    }

    private void find(String part, String words) {
        int start = start(part);
        int end = end(start);
        int at = doc.indexOf(words, start);
        // Words that stand there more than once: the next of them that no sentence has yet.
        for (int next = at; next >= 0 && next < end; next = doc.indexOf(words, next + 1)) {
            if (!told[next]) {
                at = next;
                break;
            }
        }
        if (at < 0 || at + words.length() > end) {
            wrong(": the document does not say so");
            return;
        }
        tell(at, at + words.length());
    }

    void due(String call, long got, long want) {
        answers++;
        if (got == want) {
            right++;
        } else {
            wrong(": " + call + " answered " + got + ", due is " + want);
        }
    }

    private void endSentence() {
        if (!sentence.isEmpty() && answers == 0) {
            wrong(" has no test");
        }
    }

    private void wrong(String what) {
        wrong++;
        System.out.println(name + ": " + sentence + what);
    }

    private int start(String part) {
        String head = part.startsWith("Terms ") ? "==== " + part.substring(6)
            : part.startsWith("Promise ") ? "## " + part + ":" : "## " + part + "\n";
        int at = doc.indexOf(head);
        if (at < 0) {
            wrong(": there is no " + part);
            return 0;
        }
        return at + head.length();
    }

    private int end(int start) {
        Matcher m = Pattern.compile("==== |## |Ahead of the calls").matcher(doc);
        return m.find(start) ? m.start() : doc.length();
    }

    /** The words of the Terms and the promises that stand in no sentence that was told, each run of them once. */
    private void leftOver() {
        StringBuilder left = new StringBuilder(doc);
        for (int i = 0; i < told.length; i++) {
            if (told[i]) {
                left.setCharAt(i, '\n');
            }
        }
        Matcher m = Pattern.compile("[^\n]*\\w[^\n]*").matcher(left);
        m.region(start("Terms 1"), doc.indexOf("## Not promised"));
        while (m.find()) {
            sentence = "no sentence has \"" + m.group().strip() + "\"";
            wrong(" of: .. " + doc.substring(Math.max(0, m.start() - 40), Math.min(doc.length(), m.end() + 40)));
        }
    }

    void end() {
        endSentence();
        if (!doc.isEmpty()) {
            leftOver();
        }
        System.out.println(name + ": " + sentences + " sentences, " + right + " answers right, " + wrong + " wrong");
        if (wrong != 0 || right == 0) {
            System.exit(1);
        }
    }
}
