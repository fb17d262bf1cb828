import java.lang.reflect.Constructor;
import java.lang.reflect.Field;
import java.lang.reflect.Method;
import java.lang.reflect.Modifier;
import java.nio.file.Files;
import java.nio.file.Path;
import java.util.ArrayList;
import java.util.Arrays;
import java.util.List;
import java.util.TreeSet;
import java.util.regex.Matcher;
import java.util.regex.Pattern;

/** The face of the document, and the rules of LANGUAGE.md that can be seen from outside or in the text. */
public final class LanguageTest {
    private static final String FACE = "as(int,int)int ask(int,int)int become(int,int)int copy(int,int,int,int,int)int "
            + "count(int)int drawn(int,int,int)int drop(int)int ends(int,int)int fault()int feed(int)int image(int)int "
            + "kind(int)int kinds(int,int)int line(int,int)int metre(int,int)int nearest(int,int)int poem()int "
            + "put(int,int,int,int,int)int restore(int)int rhymes(int,int)int row(int,int,int)int scan(int,int,int,int)int "
            + "set(int,int,int)int status()int stressed(int,int,int,int)long swap(int,int)int take(int)int trace(int)int "
            + "undo()int who(int,int,int,int)int whole(int)int word(int,int)int";
    private static final String[] FORBIDDEN = {"throw", "throws", "try", "catch", "synchronized", "assert", "import",
        "package", "Object", "hashCode", "volatile", "transient", "native", "var", "goto"};

    public static void main(String[] args) throws Exception {
        face();
        classes();
        text(Files.readString(Path.of("src/main/java/FeetAndRhymes.java")));
        Due.end();
    }

    private static void face() throws Exception {
        Class<?> c = FeetAndRhymes.class;
        Due.is("public final", Modifier.PUBLIC | Modifier.FINAL, c.getModifiers());
        TreeSet<String> open = new TreeSet<>();
        for (Method m : c.getDeclaredMethods()) {
            if (Modifier.isPublic(m.getModifiers())) {
                List<String> types = new ArrayList<>();
                for (Class<?> p : m.getParameterTypes()) {
                    types.add(p.getName());
                }
                open.add(m.getName() + "(" + String.join(",", types) + ")" + m.getReturnType().getName());
            } else {
                Due.is("private: " + m, 1, Modifier.isPrivate(m.getModifiers()) ? 1 : 0);
            }
        }
        Due.same("face", FACE, String.join(" ", open));
        Constructor<?>[] made = c.getDeclaredConstructors();
        Due.is("one constructor", 1, made.length);
        Due.is("it is public, without parameters", 1,
                Modifier.isPublic(made[0].getModifiers()) && made[0].getParameterCount() == 0 ? 1 : 0);
        TreeSet<String> constants = new TreeSet<>();
        for (Field f : c.getDeclaredFields()) {
            if (Modifier.isPublic(f.getModifiers())) {
                constants.add(f.getName() + "=" + f.getInt(null));
            } else {
                Due.is("private: " + f, 1, Modifier.isPrivate(f.getModifiers()) ? 1 : 0);
            }
        }
        Due.same("constants", "[BAD=-1000001, FULL=-1000003, NONE=-1000000, STATE=-1000002]", constants.toString());
    }

    private static void classes() {
        List<Class<?>> all = new ArrayList<>(Arrays.asList(FeetAndRhymes.class.getDeclaredClasses()));
        Due.is("twelve classes at most", 1, all.size() + 1 <= 12 ? 1 : 0);
        TreeSet<String> names = new TreeSet<>();
        for (Method m : FeetAndRhymes.class.getDeclaredMethods()) {
            if (Modifier.isPublic(m.getModifiers())) {
                names.add(m.getName());
            }
        }
        for (Class<?> c : all) {
            Due.is("static: " + c, 1, Modifier.isStatic(c.getModifiers()) ? 1 : 0);
            Due.is("not public: " + c, 0, c.getModifiers() & (Modifier.PUBLIC | Modifier.PROTECTED));
            for (Method m : c.getDeclaredMethods()) {
                Due.is("bears no name of the face: " + m, 0, names.contains(m.getName()) ? 1 : 0);
            }
        }
        all.add(FeetAndRhymes.class);
        for (Class<?> c : all) {
            int fields = 0;
            for (Field f : c.getDeclaredFields()) {
                boolean still = Modifier.isStatic(f.getModifiers());
                Due.is("static fields are final: " + f, 1, !still || Modifier.isFinal(f.getModifiers()) ? 1 : 0);
                fields += still ? 0 : 1;
            }
            Due.is("twenty fields at most: " + c, 1, fields <= 20 ? 1 : 0);
            for (Method m : c.getDeclaredMethods()) {
                Due.is("seven parameters at most: " + m, 1, m.getParameterCount() <= 7 ? 1 : 0);
                boolean twice = c == FeetAndRhymes.class && !Modifier.isPublic(m.getModifiers());
                Due.is("bears no name of the face: " + m, 0, twice && names.contains(m.getName()) ? 1 : 0);
            }
        }
    }

    private static void text(String source) {
        for (int i = 0; i < source.length(); i++) {
            if (source.charAt(i) > 126) {
                Due.wrong("a sign above 126 at " + i);
            }
        }
        String code = source.replaceAll("(?s)/\\*.*?\\*/", "").replaceAll("//[^\n]*", "");
        for (String word : FORBIDDEN) {
            Due.is("no " + word, 0, Pattern.compile("\\b" + word + "\\b").matcher(code).find() ? 1 : 0);
        }
        for (String sign : new String[] {"->", "::", "@", "\"", "Exact("}) {
            Due.is("no " + sign, 0, code.contains(sign) ? 1 : 0);
        }
        Matcher library = Pattern.compile("\\b(System|Math|Integer|Long|Arrays|String\\w*|Thread|Random)\\b(\\.\\w+)?")
                .matcher(code);
        while (library.find()) {
            Due.is("in the library's list: " + library.group(), 1,
                    library.group().matches("System\\.arraycopy|Math\\.(abs|min|max)|Integer\\.bitCount") ? 1 : 0);
        }
        handsOutNothing(code);
        methodLengths(code);
    }

    /** Rule 12: what a field begins with is made without the object's other fields. */
    private static void handsOutNothing(String code) {
        Matcher begin = Pattern.compile("(?m)^ +(private )?(final )?[\\w\\[\\]]+ \\w+ = new \\w+\\(([^)]*)\\);").matcher(code);
        int seen = 0;
        while (begin.find()) {
            boolean local = begin.group(1) == null && begin.group(2) == null;
            if (!local) {
                Due.same("made without other fields: " + begin.group().trim(), "", begin.group(3));
                seen++;
            }
        }
        Due.is("fields were seen that begin with an object", 1, seen > 0 ? 1 : 0);
        Due.is("no this", 0, Pattern.compile("\\bthis\\b").matcher(code).find() ? 1 : 0);
    }

    private static void methodLengths(String code) {
        String[] lines = code.split("\n");
        for (int i = 0; i < lines.length; i++) {
            Matcher head = Pattern.compile("^( +)[a-zA-Z].*\\) \\{$").matcher(lines[i]);
            boolean control = lines[i].matches(" *(if|for|while|switch|do|else)\\b.*");
            if (head.matches() && !control) {
                int end = i;
                while (end < lines.length && !lines[end].equals(head.group(1) + "}")) {
                    end++;
                }
                Due.is("sixty lines at most: " + lines[i].trim(), 1, end - i <= 60 ? 1 : 0);
            }
        }
    }
}
