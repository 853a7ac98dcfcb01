import java.io.IOException;
import java.lang.reflect.Constructor;
import java.lang.reflect.Field;
import java.lang.reflect.Method;
import java.lang.reflect.Modifier;
import java.nio.file.Files;
import java.nio.file.Path;
import java.util.Set;
import java.util.TreeSet;
import java.util.regex.Matcher;
import java.util.regex.Pattern;

/** The document's face, and those rules of LANGUAGE.md that can be seen by a machine. */
public final class RulesTest {
    private static final Check check = new Check("RulesTest");
    private static final Set<String> FACE = Set.of(
        "int type(int)", "int clear()", "int port()", "int one(int,int)", "int deed(int,int)",
        "int lends(int)", "int brings()", "int walks(int)", "int keeps(int)", "int does(int)",
        "int undo()", "int now(int)", "int round(int)", "int spoons()", "int drawn(int,int)",
        "int odds(int,int,int)", "int hears(int,int)", "int forget()", "int lies()", "int had(int)",
        "int mark(int,int)", "int keep(int)", "int back(int)", "int count(int)", "long trace()");
    private static final String[] FORBIDDEN = {
        "\\bthrow", "\\btry\\b", "\\bcatch\\b", "\\bsynchronized\\b", "\\bassert\\b", "->", "::",
        "\\bimport\\b", "\\bpackage\\b", "\\bSystem\\.(?!arraycopy)", "Exact\\b", "\\bObject\\b",
        "\\.(toString|hashCode|equals|getClass)\\(", "\\bstatic\\s*\\{"
    };

    // All calls of a run live in one room, so no call makes an object: only fields and rows do.
    private static final String MADE_ONCE = "\\s+((private )?final .*|(images|past)\\[i\\]) = new .*;";

    public static void main(String[] args) throws IOException {
        face();
        members();
        classesInside();
        source(Files.readString(Path.of("src/main/java/LentCourage.java")));
        check.finish();
    }

    private static void dueTrue(String what, boolean so) {
        check.due(what, so ? 1 : 0, 1);
    }

    private static void face() {
        Set<String> found = new TreeSet<>();
        for (Method m : LentCourage.class.getDeclaredMethods()) {
            if (Modifier.isPublic(m.getModifiers())) {
                StringBuilder s = new StringBuilder(m.getReturnType() + " " + m.getName() + "(");
                for (Class<?> type : m.getParameterTypes()) {
                    s.append(s.charAt(s.length() - 1) == '(' ? "" : ",").append(type);
                }
                found.add(s.append(')').toString());
            }
        }
        dueTrue("face is " + found, found.equals(FACE));
        int mode = LentCourage.class.getModifiers();
        dueTrue("public and final", Modifier.isPublic(mode) && Modifier.isFinal(mode));
        Constructor<?>[] makers = LentCourage.class.getDeclaredConstructors();
        dueTrue("one constructor", makers.length == 1 && makers[0].getParameterCount() == 0
            && Modifier.isPublic(makers[0].getModifiers()));
    }

    private static void members() {
        Set<String> constants = Set.of("BAD", "STATE", "FULL", "NONE", "NO");
        Set<String> found = new TreeSet<>();
        for (Field f : LentCourage.class.getDeclaredFields()) {
            int mode = f.getModifiers();
            if (Modifier.isPublic(mode)) {
                found.add(f.getName());
                dueTrue(f + " is a static int", Modifier.isStatic(mode) && f.getType() == int.class);
            }
            dueTrue(f + " is public or private", Modifier.isPublic(mode) || Modifier.isPrivate(mode));
            dueTrue(f + " is final if static", Modifier.isFinal(mode) || !Modifier.isStatic(mode));
        }
        dueTrue("constants are " + found, found.equals(constants));
        for (Method m : LentCourage.class.getDeclaredMethods()) {
            int mode = m.getModifiers();
            dueTrue(m + " is public or private", Modifier.isPublic(mode) || Modifier.isPrivate(mode));
        }
    }

    private static void classesInside() {
        Class<?>[] inside = LentCourage.class.getDeclaredClasses();
        dueTrue("twelve classes at most", inside.length < 12);
        for (Class<?> c : inside) {
            dueTrue(c + " is static", Modifier.isStatic(c.getModifiers()));
            dueTrue(c + " is not public", !Modifier.isPublic(c.getModifiers()));
            dueTrue(c + " has few fields", c.getDeclaredFields().length <= 20);
            for (Method m : c.getDeclaredMethods()) {
                dueTrue(m + " takes few parameters", m.getParameterCount() <= 7);
                dueTrue(m + " has a name of its own",
                    FACE.stream().noneMatch(call -> call.contains(" " + m.getName() + "(")));
            }
        }
    }

    private static void source(String file) {
        String code = file.replaceAll("(?s)/\\*.*?\\*/", "").replaceAll("//[^\n]*", "");
        for (String word : FORBIDDEN) {
            Matcher m = Pattern.compile(word).matcher(code);
            dueTrue("no " + word, !m.find());
        }
        dueTrue("signs 1 to 127", file.chars().allMatch(c -> c > 0 && c < 128));
        dueTrue("one file, one class at the top", Pattern.compile("(?m)^\\S.*\\b(class|record|enum|interface)\\b")
            .matcher(code).results().count() == 1);
        code.lines().filter(line -> line.matches(".*\\bnew\\b.*")).forEach(line ->
            dueTrue("made in constructors alone: " + line, line.matches(MADE_ONCE)));
        shortMethods(code);
    }

    private static void shortMethods(String code) {
        int lines = 0;
        for (String line : code.split("\n")) {
            boolean begins = line.matches(" {4}( {4})?[a-zA-Z].*\\) \\{") && !line.contains(" class ");
            lines = begins ? 0 : lines + 1;
            boolean ends = line.matches(" {4}( {4})?\\}");
            dueTrue("a method is long near: " + line, !ends || lines <= 60);
            lines = ends ? 0 : lines;
        }
    }
}
