import java.lang.reflect.Constructor;
import java.lang.reflect.Field;
import java.lang.reflect.Method;
import java.lang.reflect.Modifier;
import java.nio.file.Files;
import java.nio.file.Path;
import java.util.Arrays;
import java.util.Set;
import java.util.TreeSet;
import java.util.regex.Matcher;
import java.util.regex.Pattern;
import java.util.stream.Collectors;

/** The public face of the document, and those rules of LANGUAGE.md that can be seen from outside or in the text. */
public final class FaceTest {
    private static final Check CHECK = new Check();
    private static final String A = " IllegalArgumentException";
    private static final String AS = " IllegalArgumentException IllegalStateException";
    private static final Set<String> FACE = new TreeSet<>(Set.of(
        "int wish()", "int worth(int,int,int)", "int rule(int)", "int put(int,int,int)", "int pay(int,int,int,int)",
        "int gift(int,int,int,int)", "int middle(int,int,int)", "int end(int,int)", "int pays(int,int,int)" + A,
        "int said(int,int,int)", "int gain(int,int,int,int)" + A, "int lie(int,int)", "int lies(int)",
        "int heap(int,int,boolean)", "int onto(int)", "int dictator(int)", "long budget(int,boolean)" + A,
        "long welfare(int)" + A, "int span(int,int,int,int,int)" + AS, "int round(int,int)",
        "int price(int,int,int,int)" + AS, "int honest(int)", "int same(int,int)", "int fair(int)",
        "int likes(int,int)", "int rings()", "int leaves(int)", "int turns(int)", "int blocks(int)", "int core(int)",
        "int good(int)", "int by(int)", "int wrong(int)", "int count(int)", "int keep(int,int,int)",
        "int make(int,int,int)", "long element(int,int)" + AS, "int copy(int,int,int,int,int)", "int weight(int)",
        "int toss(int)"));
    private static final String[] BANNED = {"->", "::", "@", "\\bfinally\\b", "\\bsynchronized\\b", "\\bassert\\b",
        "\\bprotected\\b", "Exact\\(", "\\bString\\b.*\\+", "\\bstatic \\{", "\\bSystem\\.(?!arraycopy)",
        "\\bpackage\\b", "\\bimport (?!java\\.util\\.Arrays;)", "\\bArrays\\.(?!fill|copyOf)",
        "\\bInteger\\.(?!bitCount)", "\\bMath\\.(?!floorMod|min|max)", "\\bdouble\\b", "\\bfloat\\b", "\\bvar\\b",
        "\\bcatch \\((?!IllegalStateException )", "\\bthrow new (?!IllegalStateException\\(|IllegalArgumentException\\()"};

    public static void main(String[] args) throws Exception {
        face();
        nested();
        text();
        CHECK.end();
    }

    private static void face() {
        Class<?> type = HonestHouse.class;
        CHECK.holds("public and final", Modifier.isPublic(type.getModifiers()) && Modifier.isFinal(type.getModifiers()));
        Set<String> open = new TreeSet<>();
        Set<String> names = new TreeSet<>();
        for (Method method : type.getDeclaredMethods()) {
            if (Modifier.isPublic(method.getModifiers())) {
                open.add(told(method));
                names.add(method.getName());
            } else {
                CHECK.holds(method + " is private", Modifier.isPrivate(method.getModifiers()));
            }
        }
        Set<String> missing = new TreeSet<>(FACE);
        missing.removeAll(open);
        open.removeAll(FACE);
        CHECK.holds("missing " + missing + ", not in the face " + open, missing.isEmpty() && open.isEmpty());
        for (Method method : type.getDeclaredMethods()) {
            boolean apart = Modifier.isPublic(method.getModifiers()) || !names.contains(method.getName());
            CHECK.holds("a private method bears a public name: " + method, apart);
        }
        Constructor<?>[] made = type.getDeclaredConstructors();
        CHECK.holds("one constructor", made.length == 1 && Modifier.isPublic(made[0].getModifiers())
            && Arrays.equals(made[0].getParameterTypes(), new Class<?>[] {int.class, int.class}));
        for (Field field : type.getDeclaredFields()) {
            CHECK.holds(field + " is private", Modifier.isPrivate(field.getModifiers()));
        }
    }

    private static String told(Method method) {
        String types = Arrays.stream(method.getParameterTypes()).map(Class::getName).collect(Collectors.joining(","));
        StringBuilder told = new StringBuilder(method.getReturnType() + " " + method.getName() + "(" + types + ")");
        for (Class<?> thrown : method.getExceptionTypes()) {
            told.append(' ').append(thrown.getSimpleName());
        }
        return told.toString();
    }

    private static void nested() {
        Class<?>[] inside = HonestHouse.class.getDeclaredClasses();
        CHECK.holds(inside.length + " classes inside", inside.length <= 11);
        checkStatics(HonestHouse.class);
        for (Class<?> type : inside) {
            int modifiers = type.getModifiers();
            CHECK.holds(type + " is static and not public", Modifier.isStatic(modifiers) && !Modifier.isPublic(modifiers));
            checkStatics(type);
        }
    }

    private static void checkStatics(Class<?> type) {
        int own = 0;
        for (Field field : type.getDeclaredFields()) {
            boolean isStatic = Modifier.isStatic(field.getModifiers());
            CHECK.holds(field + " is static, not final", !isStatic || Modifier.isFinal(field.getModifiers()));
            own += isStatic ? 0 : 1;
        }
        CHECK.holds(type + " has " + own + " fields", own <= 20);
        for (Method method : type.getDeclaredMethods()) {
            CHECK.holds(method + " has at most seven parameters", method.getParameterCount() <= 7);
        }
    }

    private static void text() throws Exception {
        String text = Files.readString(Path.of("src/main/java/HonestHouse.java"));
        CHECK.holds("signs 1 to 127 alone", text.chars().allMatch(sign -> sign >= 1 && sign <= 127));
        String code = text.replaceAll("(?s)/\\*.*?\\*/", "").replaceAll("//[^\n]*", "").replaceAll("\"[^\"\n]*\"", "\"\"");
        for (String banned : BANNED) {
            Matcher found = Pattern.compile(banned).matcher(code);
            CHECK.holds("outside the language: " + banned, !found.find());
        }
        int start = 0;
        String[] lines = text.split("\n");
        for (int i = 0; i < lines.length; i++) {
            if (lines[i].matches(" {4}(?: {4})?\\S.*\\) ?(throws .*)?\\{")) {
                start = i;
            }
            if (lines[i].matches(" {4}(?: {4})?\\}")) {
                CHECK.holds("the method that ends at line " + (i + 1) + " is short", i - start < 60 || start == 0);
                start = 0;
            }
        }
    }
}
