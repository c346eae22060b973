import java.io.IOException;
import java.lang.reflect.Field;
import java.lang.reflect.Method;
import java.lang.reflect.Modifier;
import java.nio.file.Files;
import java.nio.file.Path;
import java.util.HashSet;
import java.util.Set;
import java.util.regex.Matcher;
import java.util.regex.Pattern;

/** What of LANGUAGE.md can be seen without reading: words that the program must not have, and how great its parts are. */
public final class LanguageTest {
    private static final Check check = new Check();

    public static void main(String[] args) throws IOException {
        String source = Files.readString(Path.of("src/main/java/PooledWaves.java"));
        String code = source.replaceAll("(?s)/\\*.*?\\*/", "").replaceAll("//[^\n]*", "");
        words(code);
        staticFields();
        namesOfTheFace();
        sizes(code);
        check.finish();
    }

    /** Rules 1, 2, 4, 6, 13. */
    private static void words(String code) {
        String[] words = {"\\bthrow\\b", "\\bthrows\\b", "\\btry\\b", "\\bcatch\\b", "\\bsynchronized\\b", "\\bassert\\b",
            "\\bimport\\b", "\\bpackage\\b", "\\bprotected\\b", "->", "::", "\\bExact\\w*\\(", "\\w+Exact\\(", "\\bequals\\(",
            "\\bhashCode\\b", "\\btoString\\b", "\\bThread\\b", "\\bSystem\\.(?!arraycopy\\()", "\\bRandom\\b", "\\bstatic \\{"};
        for (String word : words) {
            Matcher m = Pattern.compile(word).matcher(code);
            check.due("the source has " + word, m.find() ? 1 : 0, 0);
        }
        for (int i = 0; i < code.length(); i++) {
            check.due("the sign at " + i + " is one of 1 to 127", code.charAt(i) > 0 && code.charAt(i) < 128 ? 1 : 0, 1);
        }
    }

    /** Rule 5, and of rule 11 how many fields and classes there are. */
    private static void staticFields() {
        check.due("twelve classes at most", PooledWaves.class.getDeclaredClasses().length + 1 <= 12 ? 1 : 0, 1);
        fieldsOf(PooledWaves.class);
        for (Class<?> inside : PooledWaves.class.getDeclaredClasses()) {
            check.due(inside + " is static", Modifier.isStatic(inside.getModifiers()) ? 1 : 0, 1);
            fieldsOf(inside);
        }
    }

    private static void fieldsOf(Class<?> owner) {
        int own = 0;
        for (Field f : owner.getDeclaredFields()) {
            if (Modifier.isStatic(f.getModifiers())) {
                check.due(f + " is final", Modifier.isFinal(f.getModifiers()) ? 1 : 0, 1);
            } else {
                own++;
            }
        }
        check.due("twenty fields at most: " + owner, own <= 20 ? 1 : 0, 1);
    }

    /** Of rule 1: no private method bears the name of a public one; of rule 11: seven parameters at most. */
    private static void namesOfTheFace() {
        Set<String> face = new HashSet<>();
        for (Method m : PooledWaves.class.getDeclaredMethods()) {
            if (Modifier.isPublic(m.getModifiers())) {
                face.add(m.getName());
            }
        }
        for (Class<?> inside : PooledWaves.class.getDeclaredClasses()) {
            for (Method m : inside.getDeclaredMethods()) {
                check.due(m + " bears the name of a public one", face.contains(m.getName()) ? 1 : 0, 0);
                check.due(m + " takes seven at most", m.getParameterCount() <= 7 ? 1 : 0, 1);
            }
        }
    }

    /** Of rule 11: a method stays short. */
    private static void sizes(String code) {
        String[] lines = code.split("\n", -1);
        for (int i = 0; i < lines.length; i++) {
            if (!lines[i].matches(" {4,8}[\\w<>\\[\\] ]+\\([^;]*\\) \\{")) {
                continue;
            }
            String end = lines[i].replaceAll("\\S.*", "") + "}";
            int n = i + 1;
            while (n < lines.length && !lines[n].equals(end)) {
                n++;
            }
            check.due("sixty lines at most: " + lines[i].trim(), n - i <= 60 ? 1 : 0, 1);
        }
    }
}
