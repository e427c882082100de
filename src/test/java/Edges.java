import java.io.IOException;
import java.io.UncheckedIOException;
import java.nio.file.Files;
import java.nio.file.Path;
import java.util.BitSet;
import java.util.LinkedHashMap;
import java.util.Map;
import java.util.function.IntSupplier;

/**
 * Tests of boundary cases, each under the sentence that it holds the program to. The sentences are
 * looked up in the document, and none of its terms and promises may be left without a test.
 */
final class Edges {
    private static final Path DOCUMENT = Path.of("../shared/DOC.md");
    private static final int[] FAR = {Integer.MIN_VALUE, Integer.MIN_VALUE + 1, -1000000, 1000000,
        Integer.MAX_VALUE - 1, Integer.MAX_VALUE};

    private final Due due = new Due();
    private final Map<String, String> document = readDocument();
    private final Map<String, BitSet> held = new LinkedHashMap<>();
    private String sentence = "";

    /** What comes next is asked by these words of a promise. */
    void promise(int number, String words) {
        hold("Promise " + number, words);
    }

    /** What comes next is asked by these words of a part of the terms: I, II or III. */
    void term(String part, String words) {
        hold("Terms " + part, words);
    }

    /** What comes next is asked by these words of another page of the document. */
    void page(String heading, String words) {
        hold(heading, words);
    }

    private void hold(String section, String words) {
        sentence = section + ", \"" + words + "\": ";
        if (document.isEmpty()) {
            return;
        }
        String text = document.getOrDefault(section, "");
        due.is(sentence + "it stands in the document", text.contains(words) ? 1 : 0, 1);
        BitSet marks = held.computeIfAbsent(section, s -> new BitSet());
        for (int at = text.indexOf(words); at >= 0; at = text.indexOf(words, at + 1)) {
            marks.set(at, at + words.length());
        }
    }

    void is(String call, long got, long want) {
        due.is(sentence + call, got, want);
    }

    /** Each call has this answer, and together they change nothing that can be seen. */
    void refused(StampDuchy d, int want, IntSupplier... calls) {
        String before = sight(d);
        for (int i = 0; i < calls.length; i++) {
            is("refused call " + i, calls[i].getAsInt(), want);
        }
        unchanged(d, before);
    }

    void unchanged(StampDuchy d, String before) {
        String after = sight(d);
        is("nothing happens to " + before + ", not " + after, after.equals(before) ? 1 : 0, 1);
    }

    /** Numbers that are out of every bound. */
    static int[] far() {
        return FAR.clone();
    }

    /** All that can be seen without asking what comes. */
    static String sight(StampDuchy d) {
        StringBuilder sight = new StringBuilder();
        for (int what = 0; what <= 14; what++) {
            sight.append(d.count(what)).append(what == 14 ? '|' : ' ');
        }
        for (int kind = 0; kind < d.count(2); kind++) {
            sight.append(d.kind(kind, 0)).append(' ').append(d.kind(kind, 1)).append('|');
        }
        for (int person = 0; person < d.count(3); person++) {
            for (int what = 0; what <= 5; what++) {
                sight.append(d.person(person, what)).append(what == 5 ? '|' : ' ');
            }
        }
        for (int work = 0; work < d.count(4); work++) {
            for (int what = 0; what <= 4; what++) {
                sight.append(d.work(work, what)).append(what == 4 ? '|' : ' ');
            }
        }
        return sight.toString();
    }

    /** A text whose fault stands where | does, which is not of the text. */
    void duchyFault(String marked, int code) {
        String text = marked.replace("|", "");
        is(text, Due.duchy(new StampDuchy(), text), Due.fault(marked.indexOf('|'), code));
    }

    /** Likewise of a rule. */
    void ruleFault(String marked, int code) {
        String text = marked.replace("|", "");
        is(text, Due.rule(new StampDuchy(), text), Due.fault(marked.indexOf('|'), code));
    }

    /** A rule without a fault. */
    void isRule(String text) {
        is(text, Due.rule(new StampDuchy(), text), 0);
    }

    void finish() {
        sentence = "";
        for (Map.Entry<String, String> section : document.entrySet()) {
            if (section.getKey().startsWith("Promise") || section.getKey().startsWith("Terms")) {
                findUnheld(section.getKey(), section.getValue());
            }
        }
        due.finish();
    }

    private void findUnheld(String section, String text) {
        BitSet marks = held.getOrDefault(section, new BitSet());
        int from = marks.nextClearBit(0);
        while (from < text.length()) {
            int next = marks.nextSetBit(from);
            int to = next < 0 ? text.length() : next;
            String left = text.substring(from, to);
            is(section + " has words without a test: \"" + left + "\"", left.matches(".*[A-Za-z0-9].*") ? 1 : 0, 0);
            from = marks.nextClearBit(to);
        }
    }

    /** By heading: the words of the document, single blanks between them. */
    private static Map<String, String> readDocument() {
        Map<String, String> sections = new LinkedHashMap<>();
        if (!Files.isReadable(DOCUMENT)) {
            System.out.println(DOCUMENT + " can't be read: its sentences are not looked up");
            return sections;
        }
        for (String page : textOfDocument().split("\n## ")) {
            String heading = page.substring(0, page.indexOf('\n'));
            String body = page.substring(page.indexOf('\n')).replaceAll("```(text)?", " ");
            body = body.replaceAll("\\s+", " ").trim();
            if (heading.equals("Terms")) {
                String[] parts = body.split("==== I+\\. ");
                for (int i = 0; i < parts.length; i++) {
                    sections.put("Terms " + "I".repeat(i + 1), parts[i]);
                }
            } else if (heading.startsWith("Promise ")) {
                sections.put(heading.substring(0, heading.indexOf(':')), body.replaceFirst("`[^`]*`: ", ""));
            } else {
                sections.put(heading, body);
            }
        }
        return sections;
    }

    private static String textOfDocument() {
        try {
            return Files.readString(DOCUMENT);
        } catch (IOException problem) {
            throw new UncheckedIOException(problem);
        }
    }
}
