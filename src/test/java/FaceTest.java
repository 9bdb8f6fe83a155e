import java.lang.reflect.Constructor;
import java.lang.reflect.Field;
import java.lang.reflect.Method;
import java.lang.reflect.Modifier;
import java.nio.file.Files;
import java.nio.file.Path;
import java.util.Arrays;
import java.util.List;
import java.util.Set;
import java.util.TreeSet;
import java.util.regex.Matcher;
import java.util.regex.Pattern;

/** The public face is the document's and no more, and the source keeps to the rules that a text can be searched for. */
public final class FaceTest {
    private static final Path SOURCE = Path.of("src/main/java/NoiseBench.java");
    private static final List<String> FACE = List.of(
        "int bits(long,int)", "int clear()", "int bit(int)", "int mask(int)", "int code(int,int)", "int amp(int)",
        "int call(int,int)", "int taps(int,int,int,int)", "int air(int,int,int)", "int lose(int,int)",
        "int scrambled(int)", "int voice(int)", "int hear()", "int sample(int)", "int least(int)", "int find()",
        "int likeness(int)", "long bring(int,int,int,int)", "int brought(int,int)", "int errors()", "int sweep(int)",
        "int whole(int)", "int count(int)");
    private static final Check check = new Check();

    public static void main(String[] args) throws Exception {
        members();
        nested();
        source(Files.readString(SOURCE));
        check.end();
    }

    private static void members() {
        check.due("public and final", NoiseBench.class.getModifiers(), Modifier.PUBLIC | Modifier.FINAL);
        Set<String> open = new TreeSet<>();
        Set<String> hidden = new TreeSet<>();
        for (Method m : NoiseBench.class.getDeclaredMethods()) {
            if (Modifier.isPrivate(m.getModifiers())) {
                hidden.add(m.getName());
            } else if (!m.isSynthetic()) {
                check.due(m.getName() + " is public alone", m.getModifiers(), Modifier.PUBLIC);
                open.add(told(m));
            }
        }
        check.isTrue("the face is " + FACE + ", found is " + open, open.equals(new TreeSet<>(FACE)));
        for (String face : FACE) {
            String name = face.substring(face.indexOf(' ') + 1, face.indexOf('('));
            check.isTrue("no private method is named " + name, !hidden.contains(name));
        }
        Constructor<?>[] made = NoiseBench.class.getDeclaredConstructors();
        check.due("constructors", made.length, 1);
        check.due("the constructor's parameters", made[0].getParameterCount(), 0);
        check.isTrue("the constructor is public", Modifier.isPublic(made[0].getModifiers()));
        fields(NoiseBench.class, Set.of("NONE", "BAD", "NOT", "FULL"));
    }

    private static void fields(Class<?> of, Set<String> open) {
        int own = 0;
        for (Field f : of.getDeclaredFields()) {
            int modifiers = f.getModifiers();
            if (open.contains(f.getName())) {
                check.due(f.getName(), modifiers, Modifier.PUBLIC | Modifier.STATIC | Modifier.FINAL);
            } else if (of == NoiseBench.class) {
                check.isTrue(f.getName() + " is private", Modifier.isPrivate(modifiers));
            }
            if (Modifier.isStatic(modifiers)) {
                check.isTrue(f.getName() + " is final", Modifier.isFinal(modifiers));
            } else {
                own++;
            }
        }
        check.isTrue(of.getName() + " has twenty fields at most", own <= 20);
    }

    private static void nested() {
        Set<String> faceNames = new TreeSet<>();
        FACE.forEach(face -> faceNames.add(face.substring(face.indexOf(' ') + 1, face.indexOf('('))));
        Class<?>[] inside = NoiseBench.class.getDeclaredClasses();
        check.isTrue("twelve classes at most", inside.length < 12);
        for (Class<?> c : inside) {
            check.isTrue(c + " is static", Modifier.isStatic(c.getModifiers()));
            check.isTrue(c + " is not public", !Modifier.isPublic(c.getModifiers()));
            check.isTrue(c + " is not protected", !Modifier.isProtected(c.getModifiers()));
            fields(c, Set.of());
            for (Method m : c.getDeclaredMethods()) {
                check.isTrue(c + " has no method " + m.getName(), !faceNames.contains(m.getName()));
                check.isTrue(m + " takes seven at most", m.getParameterCount() <= 7);
            }
        }
    }

    private static String told(Method m) {
        StringBuilder text = new StringBuilder(m.getReturnType() + " " + m.getName() + "(");
        Arrays.stream(m.getParameterTypes()).forEach(p -> text.append(p).append(','));
        if (m.getParameterCount() > 0) {
            text.setLength(text.length() - 1);
        }
        return text.append(')').toString();
    }

    private static void source(String text) {
        String code = text.replaceAll("(?s)/\\*.*?\\*/", "").replaceAll("//[^\n]*", "");
        String[] ruledOut = {"\\bimport\\b", "\\bpackage\\b", "\\bthrows?\\b", "\\btry\\b", "\\bcatch\\b", "\\bassert\\b",
            "\\bsynchronized\\b", "->", "::", "\\bvar\\b", "\\bprotected\\b", "\\w+Exact\\b", "static\\s*\\{", "\\bObject\\b",
            "\\bdouble\\b", "\\bfloat\\b", "\\bInteger\\.M", "\\bLong\\.M"};
        for (String word : ruledOut) {
            check.isTrue("no " + word, !Pattern.compile(word).matcher(code).find());
        }
        // Calls make nothing: every new stands where a field is told, so an object's room is what its constructor takes.
        Matcher made = Pattern.compile("(?m)^.*\\bnew\\b.*$").matcher(code);
        while (made.find()) {
            check.isTrue("made with the object: " + made.group().trim(),
                made.group().matches("\\s+(private )?final [\\w\\[\\]]+ \\w+ = new .*"));
        }
        check.isTrue("signs 1 to 127 alone", text.chars().allMatch(c -> c < 128));
    }
}
