import java.io.IOException;
import java.lang.management.ManagementFactory;
import java.nio.file.Files;
import java.nio.file.Path;
import java.util.Set;
import java.util.TreeSet;
import java.util.regex.Matcher;
import java.util.regex.Pattern;

/** What of ../shared/LANGUAGE.md can be seen from the source's words, and how much room calls take. */
public final class LanguageTest {
    private static final Check C = new Check("LanguageTest");
    private static final Set<String> LIBRARY = Set.of("String", "Integer", "Long", "Math", "System", "Override");

    public static void main(String[] args) throws IOException {
        String source = Files.readString(Path.of("src/main/java/BookedEmpty.java"));
        C.isTrue("signs 1 to 127 alone", source.chars().allMatch(c -> c > 0 && c < 128));
        String code = source.replaceAll("/\\*(?s:.*?)\\*/", " ").replaceAll("//[^\n]*", " ")
            .replaceAll("\"[^\"\n]*\"", "\"\"").replaceAll("'[^'\n]+'", "' '");
        words(code);
        library(code);
        methods(code);
        room();
        C.end();
    }

    private static void words(String code) {
        String[] forbidden = {"\\bthrow\\b", "\\btry\\b", "\\bcatch\\b", "\\bfinally\\b", "\\bsynchronized\\b", "\\bassert\\b",
            "->", "::", "\\bimport\\b", "\\bpackage\\b", "\\bvolatile\\b", "\\bnative\\b", "\\btransient\\b", "\\bdouble\\b",
            "\\bfloat\\b", "\\bObject\\b", "\\bequals\\b", "\\bhashCode\\b", "\\btoString\\b", "Exact\\b", "\\bprotected\\b",
            "\\bextends\\b", "\\bimplements\\b", "static\\s*\\{", "static (?!final)(int|long|boolean|byte|char|String)\\S* \\w+( =|;)"};
        for (String word : forbidden) {
            C.isTrue("no " + word, !Pattern.compile(word).matcher(code).find());
        }
    }

    private static void library(String code) {
        Set<String> own = new TreeSet<>();
        Matcher m = Pattern.compile("\\bclass (\\w+)").matcher(code);
        while (m.find()) {
            own.add(m.group(1));
        }
        Matcher names = Pattern.compile("\\b[A-Z][a-z]\\w*").matcher(code);
        while (names.find()) {
            C.isTrue(names.group() + " is the program's or the library's", own.contains(names.group())
                || LIBRARY.contains(names.group()));
        }
        Matcher calls = Pattern.compile("\\b(Integer|Long|Math|System)\\.(\\w+)").matcher(code);
        Set<String> known = Set.of("bitCount", "max", "min", "arraycopy", "MIN_VALUE", "MAX_VALUE");
        while (calls.find()) {
            C.isTrue(calls.group() + " is allowed", known.contains(calls.group(2)));
        }
    }

    /** At most sixty lines and seven parameters; nothing is made but where a class begins. */
    private static void methods(String code) {
        String[] lines = code.split("\n", -1);
        Pattern head = Pattern.compile("^( {4}| {8})(?:\\w+[\\w\\[\\] ]* )?(\\w+)\\(([^)]*)\\) \\{$");
        for (int i = 0; i < lines.length; i++) {
            Matcher m = head.matcher(lines[i]);
            if (!m.matches()) {
                continue;
            }
            int end = i;
            while (end < lines.length && !lines[end].equals(m.group(1) + "}")) {
                end++;
                C.isTrue("new in " + m.group(2), end >= lines.length || !lines[end].contains("new ")
                    || Character.isUpperCase(m.group(2).charAt(0)));
            }
            C.isTrue(m.group(2) + " has at most 60 lines", end - i < 60);
            C.isTrue(m.group(2) + " has at most 7 parameters", m.group(3).split(",").length <= 7);
        }
    }

    /** No call makes an object: all is made with the new one. */
    private static void room() {
        com.sun.management.ThreadMXBean bean = (com.sun.management.ThreadMXBean) ManagementFactory.getThreadMXBean();
        long id = Thread.currentThread().getId();
        calls(new BookedEmpty());
        long before = bean.getThreadAllocatedBytes(id);
        BookedEmpty x = new BookedEmpty();
        long made = bean.getThreadAllocatedBytes(id);
        calls(x);
        long after = bean.getThreadAllocatedBytes(id);
        C.isTrue("a new object takes less than 16 KiB: " + (made - before), made - before < 16384);
        C.isTrue("calls take none: " + (after - made), after - made < 1024);
    }

    private static void calls(BookedEmpty x) {
        for (int i = 0; i < 4; i++) {
            x.room(20);
        }
        for (int i = 0; i < 6; i++) {
            x.hour(i, i, i, 12, 3);
        }
        String text = "like 1 h=1|!(r<2&p>3);hold 3";
        for (int n = 0; n < 7; n++) {
            for (int i = 0; i < text.length(); i++) {
                x.feed(text.charAt(i));
            }
            x.office();
        }
        for (int n = 0; n < 8; n++) {
            x.best(0);
            x.best(1);
            x.best(2);
            x.most(0);
            x.dearest(0);
            x.holds(20);
            x.waste(30);
            x.see(0, 0, true, 0);
            x.can(0, 0);
            x.where(0);
            x.plan(0, 0);
            x.ends(0);
            x.book(0, 0);
            x.looked();
            x.image();
            x.undo();
            x.act(5, 2, n);
            x.tape(0, 0, 60);
            x.shift(0, 0, 0, 1, 59);
            x.judge(0, 0);
            x.mean(20, 0);
        }
    }
}
