import java.lang.reflect.Constructor;
import java.lang.reflect.Field;
import java.lang.reflect.Method;
import java.lang.reflect.Modifier;
import java.nio.file.Files;
import java.nio.file.Path;
import java.util.Set;
import java.util.TreeSet;
import java.util.regex.Matcher;
import java.util.regex.Pattern;

/** The public face against the document's, and what can be seen of LANGUAGE.md's rules from the text. */
public final class FaceTest {
    private static int wrong = 0;

    private static void due(boolean fine, String what) {
        if (!fine) {
            wrong++;
            System.out.println(what);
        }
    }

    public static void main(String[] args) throws Exception {
        Set<String> face = documentFace(Files.readString(Path.of(System.getProperty("doc"))));
        Set<String> mine = new TreeSet<>();
        Set<String> names = new TreeSet<>();
        for (Method m : EveningCloak.class.getDeclaredMethods()) {
            if (Modifier.isPublic(m.getModifiers())) {
                mine.add(m.getReturnType() + " " + m.getName() + " " + m.getParameterCount());
                names.add(m.getName());
            }
        }
        due(face.size() == 43, "the document tells " + face.size() + " methods");
        due(face.equals(mine), "the face is " + mine + ", the document's is " + face);
        members(names);
        words(code(Files.readString(Path.of(System.getProperty("source")))));
        System.out.println(wrong == 0 ? "the face is as due" : wrong + " things are not as due");
        if (wrong != 0) System.exit(1);
    }

    private static Set<String> documentFace(String doc) {
        Set<String> face = new TreeSet<>();
        Matcher m = Pattern.compile("(?m)^    public (int|long) (\\w+)\\((.*)\\);$").matcher(doc);
        while (m.find()) {
            int parameters = m.group(3).isEmpty() ? 0 : m.group(3).split(",").length;
            face.add(m.group(1) + " " + m.group(2) + " " + parameters);
        }
        return face;
    }

    private static void members(Set<String> names) {
        due(Modifier.isFinal(EveningCloak.class.getModifiers()), "the class isn't final");
        Constructor<?>[] made = EveningCloak.class.getDeclaredConstructors();
        due(made.length == 1 && made[0].getParameterCount() == 0, "there is another constructor");
        for (Field f : EveningCloak.class.getDeclaredFields()) {
            due(Modifier.isPrivate(f.getModifiers()), "a field isn't private: " + f);
            due(!Modifier.isStatic(f.getModifiers()) || Modifier.isFinal(f.getModifiers()), "a static field isn't final: " + f);
        }
        for (Method m : EveningCloak.class.getDeclaredMethods()) {
            boolean isPublic = Modifier.isPublic(m.getModifiers());
            due(isPublic || Modifier.isPrivate(m.getModifiers()), "a method is neither public nor private: " + m);
            due(isPublic || !names.contains(m.getName()), "a private method bears a public one's name: " + m);
        }
        for (Class<?> c : EveningCloak.class.getDeclaredClasses()) {
            due(Modifier.isStatic(c.getModifiers()) && !Modifier.isPublic(c.getModifiers()), "a class inside: " + c);
            for (Method m : c.getDeclaredMethods()) {
                due(!names.contains(m.getName()), "a method inside bears a public one's name: " + m);
                due(m.getParameterCount() <= 7, "too many parameters: " + m);
            }
        }
    }

    /** Without comments and texts. */
    private static String code(String source) {
        return source.replaceAll("(?s)/\\*.*?\\*/", " ").replaceAll("//[^\n]*", " ").replaceAll("\"[^\"\n]*\"", "\"\"");
    }

    private static void words(String code) {
        String[] out = {"\\bthrow\\b", "\\btry\\b", "\\bcatch\\b", "\\bsynchronized\\b", "\\bassert\\b", "->", "::", "Exact\\b",
            "\\bprotected\\b", "\\bpackage\\b", "\\bdouble\\b", "\\bfloat\\b", "\\bhashCode\\b", "\\btoString\\b", "\\bThread\\b",
            "\\bSystem\\.(?!arraycopy\\b)", "\\bMath\\.(?!min\\b|max\\b|abs\\b)", "\\bArrays\\.(?!fill\\b)",
            "\\bimport (?!java\\.util\\.Arrays;)", "\\bvar\\b", "while \\(true\\)", "for \\(;;\\)"};
        for (String word : out) {
            Matcher m = Pattern.compile(word).matcher(code);
            due(!m.find(), "the program has " + word);
        }
    }
}
