import java.lang.reflect.Constructor;
import java.lang.reflect.Field;
import java.lang.reflect.Method;
import java.lang.reflect.Modifier;
import java.nio.charset.StandardCharsets;
import java.nio.file.Files;
import java.nio.file.Path;
import java.util.ArrayList;
import java.util.List;
import java.util.Set;
import java.util.TreeSet;
import java.util.regex.Matcher;
import java.util.regex.Pattern;

/** The public face of the document, and those rules of LANGUAGE.md that can be read from the class or its source. */
public final class FaceTest {
    private static final Check CHECK = new Check();

    private static final String[] METHODS = {
        "int set(int,int,int)", "int tenant(int,int)", "int told(int,int)", "int give(int,int)", "int strikeOff(int)",
        "int list(int)", "int feed(int)", "int text()", "int force(int)", "int year()", "int run(int,int)",
        "int takes(int)", "int strict(int,int)", "int outOfTurn(int,int,int)", "int drain(int,int)",
        "int strike(int,int)", "int change(int,int)", "int tells(int,int,int)", "int film(int,int,int)",
        "int drawn(int,int)", "long chance(int,int,int,int)", "int image()", "int back()", "int count(int)",
        "int sheet(int,int,int)", "int cell(int,int,int)", "int copy(int,int,int,int,int)",
        "int tenants(int,int,int,int)", "int taken(int,int)"};

    public static void main(String[] args) throws Exception {
        methods();
        fields();
        nested();
        source();
        CHECK.end();
    }

    private static String face(Method m) {
        StringBuilder types = new StringBuilder();
        for (Class<?> type : m.getParameterTypes()) {
            types.append(types.length() == 0 ? "" : ",").append(type.getName());
        }
        return m.getReturnType().getName() + " " + m.getName() + "(" + types + ")";
    }

    private static void methods() {
        Class<?> c = FourYearsForAStrip.class;
        CHECK.holds("public and final", Modifier.isPublic(c.getModifiers()) && Modifier.isFinal(c.getModifiers()));
        CHECK.holds("under nothing", c.getSuperclass() == Object.class && c.getInterfaces().length == 0);
        Set<String> seen = new TreeSet<>();
        Set<String> names = new TreeSet<>();
        for (Method m : c.getDeclaredMethods()) {
            if (!Modifier.isPrivate(m.getModifiers())) {
                CHECK.holds("public, not static: " + m, m.getModifiers() == Modifier.PUBLIC);
                seen.add(face(m));
                names.add(m.getName());
            }
        }
        CHECK.holds("the methods: " + seen, seen.equals(new TreeSet<>(List.of(METHODS))));
        for (Class<?> any : classes()) {
            for (Method m : any.getDeclaredMethods()) {
                boolean isFace = any == c && !Modifier.isPrivate(m.getModifiers());
                CHECK.holds("a public one's name: " + m, isFace || !names.contains(m.getName()));
                CHECK.holds("seven parameters: " + m, m.getParameterCount() <= 7);
            }
        }
        Constructor<?>[] made = c.getDeclaredConstructors();
        CHECK.holds("one constructor", made.length == 1 && made[0].getParameterCount() == 0
            && Modifier.isPublic(made[0].getModifiers()));
    }

    private static void fields() {
        Set<String> seen = new TreeSet<>();
        for (Field f : FourYearsForAStrip.class.getDeclaredFields()) {
            if (!Modifier.isPrivate(f.getModifiers())) {
                seen.add(f.getType().getName() + " " + f.getName());
                CHECK.holds("a constant: " + f, f.getModifiers() == (Modifier.PUBLIC | Modifier.STATIC | Modifier.FINAL));
            }
        }
        CHECK.holds("the constants: " + seen,
            seen.equals(Set.of("int NONE", "int BAD", "int STATE", "int FULL", "long NO")));
        CHECK.due("NONE", FourYearsForAStrip.NONE, -1);
        CHECK.due("BAD", FourYearsForAStrip.BAD, -2);
        CHECK.due("STATE", FourYearsForAStrip.STATE, -3);
        CHECK.due("FULL", FourYearsForAStrip.FULL, -4);
        CHECK.due("NO", FourYearsForAStrip.NO, -4611686018427387904L);
        for (Class<?> any : classes()) {
            int own = 0;
            for (Field f : any.getDeclaredFields()) {
                if (Modifier.isStatic(f.getModifiers())) {
                    CHECK.holds("static is final: " + f, Modifier.isFinal(f.getModifiers()));
                } else {
                    own++;
                }
            }
            CHECK.holds("fields of " + any, own <= 20);
        }
    }

    private static List<Class<?>> classes() {
        List<Class<?>> all = new ArrayList<>(List.of(FourYearsForAStrip.class.getDeclaredClasses()));
        all.add(FourYearsForAStrip.class);
        return all;
    }

    private static void nested() {
        CHECK.holds("some twelve classes", classes().size() <= 12);
        for (Class<?> inside : FourYearsForAStrip.class.getDeclaredClasses()) {
            int m = inside.getModifiers();
            CHECK.holds("static: " + inside, Modifier.isStatic(m) && !Modifier.isPublic(m) && !Modifier.isProtected(m));
        }
    }

    /** The source without its comments, texts and signs in quotes. */
    private static String bare(String source) {
        return source.replaceAll("(?s)/\\*.*?\\*/", " ").replaceAll("//[^\n]*", " ")
            .replaceAll("\"[^\"\n]*\"", "\"\"").replaceAll("'(\\\\.|[^'\\\\])'", "' '");
    }

    private static void source() throws Exception {
        Path path = Path.of(System.getProperty("fouryears.source", "src/main/java/FourYearsForAStrip.java"));
        String source = Files.readString(path, StandardCharsets.UTF_8);
        String code = bare(source);
        for (String word : new String[] {"throw", "throws", "try", "catch", "finally", "synchronized", "assert",
            "volatile", "transient", "native", "package", "protected", "strictfp", "goto"}) {
            CHECK.holds("no " + word, !Pattern.compile("\\b" + word + "\\b").matcher(code).find());
        }
        CHECK.holds("no lambda", !code.contains("->"));
        CHECK.holds("no method reference", !code.contains("::"));
        CHECK.holds("no static block", !Pattern.compile("\\bstatic\\s*\\{").matcher(code).find());
        Matcher imports = Pattern.compile("\\bimport\\s+([^;]+);").matcher(code);
        while (imports.find()) {
            CHECK.holds("import of " + imports.group(1), Set.of("java.util.Arrays").contains(imports.group(1)));
        }
        for (int i = 0; i < source.length(); i++) {
            if (source.charAt(i) > 126) {
                CHECK.due("a sign above 126 at", i, -1);
            }
        }
        library(code);
        methodsAreShort(code);
    }

    private static void library(String code) {
        Set<String> may = Set.of("Arrays.fill", "System.arraycopy", "Math.max", "Math.min");
        Matcher calls = Pattern.compile("\\b(Arrays|System|Math|Integer|Long|String|Character|Object|Thread)\\.(\\w+)")
            .matcher(code);
        while (calls.find()) {
            CHECK.holds("of the library: " + calls.group(), may.contains(calls.group()));
        }
    }

    private static void methodsAreShort(String code) {
        String[] lines = code.split("\n", -1);
        for (int i = 0; i < lines.length; i++) {
            if (lines[i].matches("\\s+(public |private )?(static )?\\w+(\\[\\])? \\w+\\([^;]*\\) \\{")) {
                String close = lines[i].replaceAll("\\S.*", "") + "}";
                int end = i;
                while (end < lines.length && !lines[end].equals(close)) {
                    end++;
                }
                CHECK.holds("some sixty lines: " + lines[i].strip(), end - i < 60);
            }
        }
    }
}
