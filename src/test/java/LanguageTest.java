import java.lang.reflect.Constructor;
import java.lang.reflect.Field;
import java.lang.reflect.Method;
import java.lang.reflect.Modifier;
import java.nio.file.Files;
import java.nio.file.Path;
import java.util.List;
import java.util.Set;
import java.util.TreeSet;
import java.util.regex.Matcher;
import java.util.regex.Pattern;

/** The rules of LANGUAGE.md that can be seen in the class's members and in its source's words. */
public final class LanguageTest {
    private static final Due DUE = new Due();
    private static final Set<String> FACE = Set.of("meeting", "law", "good", "seat", "out", "like", "unlike", "credential",
        "about", "feed", "rule", "force", "move", "vote", "motion", "bind", "release", "ballot", "had", "foresee", "needs",
        "turned", "group", "offer", "gets", "bargain", "breaks", "plank", "amend", "strike", "platform", "taken", "count");
    private static final List<String> FORBIDDEN = List.of("\\bthrow\\b", "\\btry\\b", "\\bcatch\\b", "\\bsynchronized\\b",
        "\\bassert\\b", "->", "::", "Exact\\b", "\\bstatic \\{", "\\bpackage\\b", "\\bprotected\\b", "\\bThread\\b", "\\bRandom\\b",
        "System\\.(?!arraycopy)", "import (?!java\\.util\\.(Arrays|ArrayList|List|Iterator);)", "\" \\+", "\\+ \"");

    public static void main(String[] args) throws Exception {
        theFaceIsTheDocuments();
        classesInsideAreStatic();
        String source = Files.readString(Path.of("src/main/java/RollHall.java"));
        wordsAreAllowed(source.replaceAll("(?s)/\\*.*?\\*/", "").replaceAll("//[^\n]*", ""));
        methodsAreShort(source);
        DUE.end();
    }

    private static void theFaceIsTheDocuments() {
        Set<String> open = new TreeSet<>();
        for (Method m : RollHall.class.getDeclaredMethods()) {
            boolean isPublic = Modifier.isPublic(m.getModifiers());
            DUE.is("public or private: " + m, isPublic != Modifier.isPrivate(m.getModifiers()) ? 1 : 0, 1);
            DUE.is("of the face: " + m, FACE.contains(m.getName()) == isPublic ? 1 : 0, 1);
            if (isPublic) {
                open.add(m.getName());
            }
        }
        DUE.is("methods of the face", open.size(), 33);
        for (Field f : RollHall.class.getDeclaredFields()) {
            boolean constant = Set.of("NONE", "BAD", "STATE", "FULL").contains(f.getName());
            DUE.is("public or private: " + f, constant ? Modifier.isPublic(f.getModifiers()) ? 1 : 0
                : Modifier.isPrivate(f.getModifiers()) ? 1 : 0, 1);
        }
        Constructor<?>[] made = RollHall.class.getDeclaredConstructors();
        DUE.is("constructors", made.length, 1);
        DUE.is("the constructor is public", Modifier.isPublic(made[0].getModifiers()) ? 1 : 0, 1);
        DUE.is("the class is final", Modifier.isFinal(RollHall.class.getModifiers()) ? 1 : 0, 1);
    }

    private static void classesInsideAreStatic() {
        Class<?>[] inside = RollHall.class.getDeclaredClasses();
        DUE.is("classes, the outer one too", inside.length < 12 ? 1 : 0, 1);
        for (Class<?> c : inside) {
            DUE.is("static: " + c, Modifier.isStatic(c.getModifiers()) ? 1 : 0, 1);
            DUE.is("private or package-visible: " + c,
                (c.getModifiers() & (Modifier.PUBLIC | Modifier.PROTECTED)) == 0 ? 1 : 0, 1);
            fieldsAreFew(c);
            for (Method m : c.getDeclaredMethods()) {
                DUE.is("a private one with a name of the face: " + m,
                    Modifier.isPrivate(m.getModifiers()) && FACE.contains(m.getName()) ? 1 : 0, 0);
                DUE.is("parameters: " + m, m.getParameterCount() <= 7 ? 1 : 0, 1);
            }
        }
        fieldsAreFew(RollHall.class);
    }

    private static void fieldsAreFew(Class<?> c) {
        int fields = 0;
        for (Field f : c.getDeclaredFields()) {
            boolean isStatic = Modifier.isStatic(f.getModifiers());
            DUE.is("static ones are final: " + f, !isStatic || Modifier.isFinal(f.getModifiers()) ? 1 : 0, 1);
            fields += isStatic ? 0 : 1;
        }
        DUE.is("at most twenty fields: " + c, fields <= 20 ? 1 : 0, 1);
    }

    private static void wordsAreAllowed(String code) {
        for (String word : FORBIDDEN) {
            Matcher m = Pattern.compile(word).matcher(code);
            DUE.is("there is " + word, m.find() ? 1 : 0, 0);
        }
    }

    /** A method is what stands between a line that opens one and the closing brace below its first sign. */
    private static void methodsAreShort(String source) {
        Matcher m = Pattern.compile("(?sm)^( +)[^ \n/*][^\n;=]*\\([^\n;]*\\) \\{\n.*?^\\1\\}").matcher(source);
        while (m.find()) {
            long lines = m.group().lines().count();
            DUE.is("at most sixty lines: " + m.group().lines().findFirst().orElse(""), lines <= 60 ? 1 : 0, 1);
        }
    }
}
