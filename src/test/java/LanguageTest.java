import java.io.IOException;
import java.lang.reflect.Member;
import java.lang.reflect.Modifier;
import java.nio.file.Files;
import java.nio.file.Path;
import java.util.List;
import java.util.Set;
import java.util.TreeSet;
import java.util.regex.Matcher;
import java.util.regex.Pattern;

/** What of the language's rules can be seen without reading: words, lengths, names, the face. */
public final class LanguageTest {
    private static final Due DUE = new Due();

    public static void main(String[] args) throws IOException {
        String source = Files.readString(Path.of("src/main/java/StampDuchy.java"));
        String code = source.replaceAll("(?s)/\\*.*?\\*/", "").replaceAll("//[^\n]*", "");
        words(code);
        lengths(source);
        face();
        names();
        DUE.finish();
    }

    private static int found(String pattern, String code) {
        Matcher matcher = Pattern.compile(pattern).matcher(code);
        int found = 0;
        while (matcher.find()) {
            found++;
        }
        return found;
    }

    private static void words(String code) {
        for (String word : List.of("throw", "throws", "try", "catch", "synchronized", "assert", "float", "double",
            "lambda", "System\\.out", "Object", "equals", "hashCode", "toString", "protected", "package")) {
            DUE.is("word " + word, found("\\b" + word + "\\b", code), 0);
        }
        DUE.is("arrows and references", found("->|::", code), 0);
        DUE.is("imports", found("\\bimport\\b", code), 1);
        DUE.is("the import", found("import java\\.util\\.Arrays;", code), 1);
        DUE.is("classes at most twelve", found("\\bclass\\b", code) <= 12 ? 1 : 0, 1);
        DUE.is("static fields that are not final", found("static (int|long|boolean|char|String)(\\[\\])? \\w+ ?[=;]", code), 0);
        DUE.is("classes inside are static", found("(?<!static final )(?<!public final )class ", code), 0);
    }

    private static void lengths(String source) {
        int start = 0;
        int line = 0;
        for (String text : source.split("\n")) {
            line++;
            DUE.is("line " + line + " is short", text.length() <= 120 ? 1 : 0, 1);
            if (text.matches(" +[\\w\\[\\]<> ]+\\(.*\\) \\{") && !text.matches(" +(if|for|while|switch|.*else).*")) {
                start = line;
                int commas = text.length() - text.replace(",", "").length();
                DUE.is("parameters in line " + line, commas < 7 ? 1 : 0, 1);
            }
            if (text.matches(" {4}(    )?\\}") && start > 0) {
                DUE.is("method at line " + start + " is short", line - start <= 60 ? 1 : 0, 1);
            }
        }
    }

    private static boolean hidden(Member member) {
        return Modifier.isPrivate(member.getModifiers()) || member.isSynthetic();
    }

    private static void face() {
        Set<String> open = new TreeSet<>();
        for (Member method : StampDuchy.class.getDeclaredMethods()) {
            if (!hidden(method)) {
                open.add(method.getName());
            }
        }
        Set<String> promised = new TreeSet<>(List.of("feed", "end", "duchy", "rule", "force", "kind", "person", "work",
            "hour", "begin", "sneak", "hand", "drop", "undo", "ahead", "stops", "save", "relay", "most", "chains",
            "tariff", "help", "value", "watch", "log", "ruled", "look", "seed", "nights", "count", "image", "back"));
        DUE.is("the face is " + open, open.equals(promised) ? 1 : 0, 1);
        int fields = 0;
        for (Member field : StampDuchy.class.getDeclaredFields()) {
            fields += hidden(field) ? 0 : 1;
        }
        DUE.is("one open field", fields, 1);
        DUE.is("final", Modifier.isFinal(StampDuchy.class.getModifiers()) ? 1 : 0, 1);
    }

    private static void names() {
        Set<String> open = new TreeSet<>();
        for (Member method : StampDuchy.class.getMethods()) {
            open.add(method.getName());
        }
        DUE.is("fields of the class", fieldsOf(StampDuchy.class) <= 20 ? 1 : 0, 1);
        for (Class<?> inside : StampDuchy.class.getDeclaredClasses()) {
            DUE.is("fields of " + inside.getName(), fieldsOf(inside) <= 20 ? 1 : 0, 1);
            for (Member method : inside.getDeclaredMethods()) {
                DUE.is("name " + method.getName(), open.contains(method.getName()) ? 1 : 0, 0);
            }
        }
    }

    private static int fieldsOf(Class<?> type) {
        int fields = 0;
        for (Member field : type.getDeclaredFields()) {
            fields += Modifier.isStatic(field.getModifiers()) ? 0 : 1;
        }
        return fields;
    }
}
