import java.io.IOException;
import java.lang.reflect.Constructor;
import java.lang.reflect.Field;
import java.lang.reflect.Method;
import java.lang.reflect.Modifier;
import java.nio.file.Files;
import java.nio.file.Path;
import java.util.Set;
import java.util.TreeSet;
import java.util.regex.Pattern;

/** The class has the document's face and no more, and keeps to the rules that can be seen in its text. */
public final class FaceTest {
    private static final String[] FACE = {
        "int stone(int,int,int)", "int wallOf(int,int)", "int of(int,int,int)",
        "int set(int,int,int,int)", "int turn(int,int,int)", "int as(int,int,int)",
        "int wedge(int,int)", "int slack(int)", "int beam(int,boolean)", "int nights(int)",
        "int now(int)", "int pull(int)", "int pulls()", "int can(int)", "int stands()",
        "int least()", "long ways(int)", "int first(int)", "int bring(int)", "int slackFor(int)",
        "int slackAll()", "int most(int)", "int where(int)", "int out(int,int)", "int reach(int)",
        "int help()", "int frees()", "int kind(int)", "int till()", "int feed(int,int)",
        "int wipe()", "int house()", "int sheet(int,int,int)", "long write(int,int,long)",
        "int copy(int,int,int,int,int)", "int lays(int)", "int book(int)", "long read(int)",
        "int image()", "int undo()", "int tear()", "int count(int)", "int status(int)",
    };

    public static void main(String[] args) throws IOException {
        face();
        privateNames();
        sourceRules();
        Check.end();
    }

    private static void face() {
        Set<String> want = new TreeSet<>(Set.of(FACE));
        Set<String> got = new TreeSet<>();
        for (Method m : WallDown.class.getDeclaredMethods()) {
            if (!Modifier.isPrivate(m.getModifiers())) {
                got.add(told(m));
                Check.that(m + " is public and of the object",
                        Modifier.isPublic(m.getModifiers()) && !Modifier.isStatic(m.getModifiers()));
            }
        }
        Check.that("the methods are " + want + ", not " + got, got.equals(want));
        Constructor<?>[] made = WallDown.class.getDeclaredConstructors();
        Check.that("one public constructor without arguments", made.length == 1
                && Modifier.isPublic(made[0].getModifiers()) && made[0].getParameterCount() == 0);
        for (Field f : WallDown.class.getDeclaredFields()) {
            Check.that(f + " is private", Modifier.isPrivate(f.getModifiers()));
            Check.that(f + " is final if static",
                    !Modifier.isStatic(f.getModifiers()) || Modifier.isFinal(f.getModifiers()));
        }
        for (Class<?> c : WallDown.class.getDeclaredClasses()) {
            Check.that(c + " is static and not public",
                    Modifier.isStatic(c.getModifiers()) && !Modifier.isPublic(c.getModifiers()));
        }
        Check.that("the class is public and final", Modifier.isPublic(WallDown.class.getModifiers())
                && Modifier.isFinal(WallDown.class.getModifiers()));
    }

    private static String told(Method m) {
        StringBuilder all = new StringBuilder(m.getReturnType().getName());
        all.append(' ').append(m.getName()).append('(');
        for (Class<?> type : m.getParameterTypes()) {
            all.append(all.charAt(all.length() - 1) == '(' ? "" : ",").append(type.getName());
        }
        return all.append(')').toString();
    }

    private static void privateNames() {
        Set<String> names = new TreeSet<>();
        for (Method m : WallDown.class.getDeclaredMethods()) {
            if (Modifier.isPublic(m.getModifiers())) {
                names.add(m.getName());
            }
        }
        for (Method m : WallDown.class.getDeclaredMethods()) {
            Check.that(m + " bears no public name",
                    Modifier.isPublic(m.getModifiers()) || !names.contains(m.getName()));
        }
        for (Class<?> c : WallDown.class.getDeclaredClasses()) {
            for (Method m : c.getDeclaredMethods()) {
                Check.that(m + " bears no public name", !names.contains(m.getName()));
                Check.that(m + " has seven parameters at most", m.getParameterCount() <= 7);
            }
        }
    }

    private static void sourceRules() throws IOException {
        String source = Files.readString(Path.of("src/main/java/WallDown.java"));
        String code = source.replaceAll("(?s)/\\*.*?\\*/", "").replaceAll("//[^\n]*", "");
        for (String pattern : new String[] {"\\bthrows?\\b", "\\btry\\b", "\\bcatch\\b", "\\bfinally\\b",
            "\\bassert\\b", "\\bsynchronized\\b", "\\bpackage\\b", "\\bObject\\b", "Exact\\b", "->", "::",
            "\\bSystem\\.(?!arraycopy\\b)", "\\bstatic \\{", "\" *\\+", "\\+ *\""}) {
            Check.that("no " + pattern + " in the class", !Pattern.compile(pattern).matcher(code).find());
        }
        for (String line : code.split("\n")) {
            Check.that("made when an object is made, not by a call: " + line, !line.contains("new ")
                    || line.matches(" +(private )?final [\\w\\[\\]]+ \\w+ = new .*")
                    || line.equals("            sheets[s] = new Sheet();"));
            if (line.startsWith("import ")) {
                Check.that(line, line.equals("import java.util.Arrays;"));
            }
        }
    }
}
