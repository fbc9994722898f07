import java.lang.reflect.Constructor;
import java.lang.reflect.Field;
import java.lang.reflect.Method;
import java.lang.reflect.Modifier;
import java.nio.charset.StandardCharsets;
import java.nio.file.Files;
import java.nio.file.Path;
import java.util.ArrayList;
import java.util.List;
import java.util.Set;
import java.util.TreeSet;
import java.util.regex.Matcher;
import java.util.regex.Pattern;

/** The public face of the document, and those rules of LANGUAGE.md that can be seen from outside or in the text. */
public final class FaceTest {
    private static final Set<String> FACE = Set.of("int feed(int,long)", "int reef()", "int skies()", "int fault()", "long told(int)",
        "int light(int,int)", "int sky(int)", "int odds(int,int)", "int goal(int)", "int wick(int,boolean)", "int go(int)", "int drift(int)",
        "int pour(int)", "int begin()", "int round(int,int)", "int darken(int,int)", "int lasts(int)", "int late(int)", "int store(int,int)",
        "int comes(int,int,int)", "int say(int,boolean)", "int forget()", "int out(int,int,int)", "int write(int,int)", "int tear(int)",
        "int judge(int)", "int seed(int)", "int keep(int)", "int goBack(int)");
    private static final Set<String> CONSTANTS = Set.of("NONE", "UNKNOWN", "OUTSIDE", "NOT", "FULL");

    public static void main(String[] args) throws Exception {
        constants();
        members();
        nestedClasses();
        sourceText();
        Due.end("FaceTest");
    }

    private static void constants() {
        Due.is("NONE", ReefLights.NONE, -1);
        Due.is("UNKNOWN", ReefLights.UNKNOWN, -1000000001);
        Due.is("OUTSIDE", ReefLights.OUTSIDE, -1000000002);
        Due.is("NOT", ReefLights.NOT, -1000000003);
        Due.is("FULL", ReefLights.FULL, -1000000004);
    }

    private static String signature(Method m) {
        List<String> types = new ArrayList<>();
        for (Class<?> type : m.getParameterTypes()) {
            types.add(type.getSimpleName());
        }
        return m.getReturnType().getSimpleName() + " " + m.getName() + "(" + String.join(",", types) + ")";
    }

    private static void members() {
        Class<?> c = ReefLights.class;
        Due.is("public final", c.getModifiers() & (Modifier.PUBLIC | Modifier.FINAL), Modifier.PUBLIC | Modifier.FINAL);
        Set<String> seen = new TreeSet<>();
        Set<String> publicNames = new TreeSet<>();
        for (Method m : c.getDeclaredMethods()) {
            if (!Modifier.isPrivate(m.getModifiers())) {
                seen.add(signature(m));
                publicNames.add(m.getName());
                Due.is(m.getName() + " is public, not static", m.getModifiers() & (Modifier.PUBLIC | Modifier.STATIC), Modifier.PUBLIC);
            }
        }
        Due.same("the face", seen.toString(), new TreeSet<>(FACE).toString());
        for (Method m : c.getDeclaredMethods()) {
            if (Modifier.isPrivate(m.getModifiers())) {
                Due.is("a private method with a public name: " + m.getName(), publicNames.contains(m.getName()) ? 1 : 0, 0);
            }
        }
        for (Class<?> inside : c.getDeclaredClasses()) {
            for (Method m : inside.getDeclaredMethods()) {
                Due.is("a method inside with a public name: " + m.getName(), publicNames.contains(m.getName()) ? 1 : 0, 0);
            }
        }
        for (Field f : c.getDeclaredFields()) {
            boolean isFace = CONSTANTS.contains(f.getName());
            Due.is(f.getName() + " is public", Modifier.isPublic(f.getModifiers()) ? 1 : 0, isFace ? 1 : 0);
            Due.is(f.getName() + " is private", Modifier.isPrivate(f.getModifiers()) ? 1 : 0, isFace ? 0 : 1);
        }
        for (Constructor<?> made : c.getDeclaredConstructors()) {
            Due.is("constructor's parameters", made.getParameterCount(), 0);
        }
    }

    private static void nestedClasses() {
        Class<?>[] inside = ReefLights.class.getDeclaredClasses();
        Due.is("at most eleven classes inside", inside.length <= 11 ? 1 : 0, 1);
        List<Class<?>> all = new ArrayList<>(List.of(inside));
        all.add(ReefLights.class);
        for (Class<?> c : all) {
            if (c != ReefLights.class) {
                Due.is(c + " is static", Modifier.isStatic(c.getModifiers()) ? 1 : 0, 1);
                Due.is(c + " is public or protected", c.getModifiers() & (Modifier.PUBLIC | Modifier.PROTECTED), 0);
            }
            int fields = 0;
            for (Field f : c.getDeclaredFields()) {
                if (!Modifier.isStatic(f.getModifiers())) {
                    fields++;
                } else {
                    Due.is("static " + f.getName() + " is final", Modifier.isFinal(f.getModifiers()) ? 1 : 0, 1);
                }
            }
            Due.is(c + " has at most twenty fields", fields <= 20 ? 1 : 0, 1);
            for (Method m : c.getDeclaredMethods()) {
                Due.is(m + " takes at most seven", m.getParameterCount() <= 7 ? 1 : 0, 1);
            }
        }
    }

    private static void sourceText() throws Exception {
        String source = Files.readString(Path.of("src/main/java/ReefLights.java"), StandardCharsets.UTF_8);
        String code = source.replaceAll("(?s)/\\*.*?\\*/", "").replaceAll("//[^\n]*", "");
        String[] banned = {"\\bthrow\\b", "\\btry\\b", "\\bcatch\\b", "\\bsynchronized\\b", "\\bassert\\b", "->", "::", "\\bpackage\\b", "Exact\\b",
            "\\bimport\\b", "\\bSystem\\.(?!arraycopy)", "\\bMath\\.(?!min\\b|max\\b|abs\\b|floorMod\\b)", "\"\\s*\\+", "\\+\\s*\"", "\\bequals\\b",
            "\\bhashCode\\b", "\\btoString\\b", "\\bwhile\\b", "\\bprotected\\b", "\\bvolatile\\b", "[^\\x00-\\x7f]"};
        for (String word : banned) {
            Matcher m = Pattern.compile(word).matcher(code);
            Due.is("in the source: " + word, m.find() ? 1 : 0, 0);
        }
        int from = 0;
        int line = 0;
        for (String text : source.split("\n")) {
            line++;
            if (text.matches("    (    )?[a-zA-Z].*\\) \\{")) {
                from = line;
            }
            if (text.equals("    }") || text.equals("        }")) {
                Due.is("lines of the method that ends at line " + line, from == 0 || line - from < 60 ? 1 : 0, 1);
                from = 0;
            }
        }
    }
}
