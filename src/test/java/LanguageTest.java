import java.io.IOException;
import java.lang.reflect.Constructor;
import java.lang.reflect.Field;
import java.lang.reflect.Method;
import java.lang.reflect.Modifier;
import java.nio.file.Files;
import java.nio.file.Path;
import java.util.Arrays;
import java.util.TreeSet;
import java.util.regex.Matcher;
import java.util.regex.Pattern;

/** The rules of LANGUAGE.md that can be seen from the file's words and from the compiled face. */
final class LanguageTest {
    private static final String[] FACE = {
        "type(long,int)int", "clear()int", "shaft()int", "level(int,int)int", "man(int)int", "wet(int)int", "taken(int)int",
        "comes(int)int", "climbs(int,int)int", "plucks(int)int", "falls(int)int", "mends()int", "year()int", "heard(int,int)int",
        "forget()int", "tracks()int", "where(int)int", "men()int", "keeps(int)int", "meet(int,int)int", "first()int", "sing(int)int",
        "hush()int", "climbing()int", "by(int,int)int", "mark(int,int)int", "keep(int)int", "back(int)int", "count(int)int", "trace()long"};
    private static final String[] CONSTANTS = {"BAD", "STATE", "FULL", "NONE", "NO"};
    private static final String[] FORBIDDEN_WORDS = {
        "throw", "throws", "try", "catch", "finally", "synchronized", "assert", "equals", "hashCode", "toString", "package", "var",
        "Thread", "Random", "System\\.(?!arraycopy)", "Math\\.\\w+Exact", "Object", "Exception", "new \\w+\\(\\) \\{"};

    private final Checks checks = new Checks();

    public static void main(String[] args) throws IOException {
        LanguageTest t = new LanguageTest();
        String source = Files.readString(Path.of("src/main/java/NoteBells.java"));
        String code = withoutComments(source);
        t.words(source, code);
        t.sizes(code);
        t.face();
        t.checks.end();
    }

    private static String withoutComments(String source) {
        return source.replaceAll("(?s)/\\*.*?\\*/", "").replaceAll("//[^\n]*", "");
    }

    private void words(String source, String code) {
        checks.isTrue("signs are ASCII", source.chars().allMatch(c -> c < 127));
        for (String word : FORBIDDEN_WORDS) {
            Matcher m = Pattern.compile("\\b" + word).matcher(code);
            while (m.find()) {
                int end = m.end();
                boolean longer = end < code.length() && Character.isJavaIdentifierPart(code.charAt(end)) && Character.isLetter(word.charAt(word.length() - 1));
                checks.isTrue("no " + word + " at " + m.start(), longer);
            }
        }
        checks.isTrue("no lambda", !code.contains("->"));
        checks.isTrue("no method reference", !code.contains("::"));
        checks.isTrue("no annotation", !code.contains("@"));
        Matcher imports = Pattern.compile("import ([^;]+);").matcher(code);
        while (imports.find()) {
            checks.isTrue("import of " + imports.group(1), Arrays.asList("java.util.Arrays", "java.util.ArrayList", "java.util.List").contains(imports.group(1)));
        }
        checks.isTrue("no text joined by +", !Pattern.compile("\"\\s*\\+|\\+\\s*\"").matcher(code).find());
    }

    private void sizes(String code) {
        int start = -1;
        String[] lines = code.split("\n");
        for (int i = 0; i < lines.length; i++) {
            if (lines[i].matches("\\s+(public|private)[^=;]*\\(.*\\) \\{")) {
                start = i;
                int commas = lines[i].replaceAll("[^,]", "").length();
                checks.isTrue("seven parameters at most: " + lines[i], commas < 7);
            }
            if (start >= 0 && lines[i].matches(lines[start].replaceAll("\\S.*", "") + "}")) {
                checks.isTrue("some sixty lines: " + lines[start], i - start <= 60);
                start = -1;
            }
        }
    }

    private void face() {
        TreeSet<String> found = new TreeSet<>();
        TreeSet<String> names = new TreeSet<>();
        for (Method m : NoteBells.class.getDeclaredMethods()) {
            if (!Modifier.isPrivate(m.getModifiers())) {
                StringBuilder b = new StringBuilder(m.getName()).append('(');
                for (Class<?> p : m.getParameterTypes()) {
                    b.append(b.charAt(b.length() - 1) == '(' ? "" : ",").append(p.getName());
                }
                found.add(b.append(')').append(m.getReturnType().getName()).toString());
                names.add(m.getName());
                checks.isTrue(m + " is a plain public one", m.getModifiers() == Modifier.PUBLIC);
            }
        }
        checks.isTrue("the face's methods: " + found, found.equals(new TreeSet<>(Arrays.asList(FACE))));
        checks.isTrue("public and final", NoteBells.class.getModifiers() == (Modifier.PUBLIC | Modifier.FINAL));
        Constructor<?>[] made = NoteBells.class.getDeclaredConstructors();
        checks.isTrue("one constructor", made.length == 1 && made[0].getModifiers() == Modifier.PUBLIC && made[0].getParameterCount() == 0);
        fields(NoteBells.class, true);
        Class<?>[] inside = NoteBells.class.getDeclaredClasses();
        checks.isTrue("twelve classes at most", inside.length < 12);
        for (Class<?> c : inside) {
            checks.isTrue(c + " is static", Modifier.isStatic(c.getModifiers()));
            checks.isTrue(c + " is not public", !Modifier.isPublic(c.getModifiers()) && !Modifier.isProtected(c.getModifiers()));
            fields(c, false);
            for (Method m : c.getDeclaredMethods()) {
                checks.isTrue(m + " has no name of the face", !names.contains(m.getName()));
            }
        }
        for (Method m : NoteBells.class.getDeclaredMethods()) {
            checks.isTrue(m + " has no public one's name", !Modifier.isPrivate(m.getModifiers()) || !names.contains(m.getName()));
        }
    }

    private void fields(Class<?> c, boolean isFace) {
        int own = 0;
        for (Field f : c.getDeclaredFields()) {
            int mods = f.getModifiers();
            if (Modifier.isStatic(mods)) {
                checks.isTrue(f + " is final", Modifier.isFinal(mods));
            } else {
                own++;
            }
            boolean told = isFace && Arrays.asList(CONSTANTS).contains(f.getName());
            checks.isTrue(f + " is " + (told ? "public" : "private"), told ? Modifier.isPublic(mods) && f.getType() == int.class : Modifier.isPrivate(mods));
        }
        checks.isTrue(c + " has some twenty fields at most", own <= 20);
    }
}
