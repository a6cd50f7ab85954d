import java.io.IOException;
import java.lang.reflect.Constructor;
import java.lang.reflect.Field;
import java.lang.reflect.Method;
import java.lang.reflect.Modifier;
import java.nio.file.Files;
import java.nio.file.Path;
import java.util.Set;
import java.util.TreeSet;

/** The public face is that of the document, and nothing else can be seen; the file keeps to LANGUAGE.md's words. */
public final class FaceTest {
    public static void main(String[] args) throws IOException {
        constants();
        Set<String> want = facesOf(Files.readString(Path.of("../shared/DOC.md")));
        Set<String> have = new TreeSet<>();
        for (Method m : OnlyFar.class.getDeclaredMethods()) {
            if (Modifier.isPrivate(m.getModifiers())) {
                Check.due("private " + m.getName() + " bears a public name", bearsPublicName(m) ? 1 : 0, 0);
                continue;
            }
            have.add(signature(m));
        }
        same(want, have);
        others();
        forbiddenWords(Files.readString(Path.of("src/main/java/OnlyFar.java")));
        Check.finish();
    }

    private static void constants() {
        Check.due("BAD", OnlyFar.BAD, -1);
        Check.due("STATE", OnlyFar.STATE, -2);
        Check.due("FULL", OnlyFar.FULL, -3);
        Check.due("NONE", OnlyFar.NONE, -4);
        Check.due("public and final", OnlyFar.class.getModifiers(), Modifier.PUBLIC | Modifier.FINAL);
    }

    private static Set<String> facesOf(String document) {
        Set<String> faces = new TreeSet<>();
        for (String line : document.split("\n")) {
            if (line.matches("    public (int|long) \\w+\\(.*\\);")) {
                String types = line.trim().replaceAll("^public |;$", "").replaceAll("(int|long) \\w+(?=[,)])", "$1");
                faces.add(types.replace(", ", ","));
            }
        }
        Check.due("methods of the document", faces.size(), 40);
        return faces;
    }

    private static String signature(Method m) {
        StringBuilder text = new StringBuilder(m.getReturnType() + " " + m.getName() + "(");
        for (int i = 0; i < m.getParameterCount(); i++) {
            text.append(i == 0 ? "" : ",").append(m.getParameterTypes()[i]);
        }
        Check.due(m.getName() + " is public alone", m.getModifiers(), Modifier.PUBLIC);
        return text.append(")").toString();
    }

    private static boolean bearsPublicName(Method m) {
        for (Method other : OnlyFar.class.getMethods()) {
            if (other.getName().equals(m.getName())) {
                return true;
            }
        }
        return false;
    }

    private static void same(Set<String> want, Set<String> have) {
        for (String face : want) {
            Check.due("the face has " + face, have.contains(face) ? 1 : 0, 1);
        }
        for (String face : have) {
            Check.due("the document has " + face, want.contains(face) ? 1 : 0, 1);
        }
    }

    private static void others() {
        for (Field f : OnlyFar.class.getDeclaredFields()) {
            boolean constant = Set.of("BAD", "STATE", "FULL", "NONE").contains(f.getName());
            boolean seen = !Modifier.isPrivate(f.getModifiers());
            Check.due("field " + f.getName() + " is seen", seen ? 1 : 0, constant ? 1 : 0);
        }
        Constructor<?>[] makers = OnlyFar.class.getDeclaredConstructors();
        Check.due("constructors", makers.length, 1);
        Check.due("constructor", makers[0].getParameterCount(), 0);
        Check.due("classes inside and the class", OnlyFar.class.getDeclaredClasses().length <= 11 ? 1 : 0, 1);
        for (Class<?> inside : OnlyFar.class.getDeclaredClasses()) {
            int modifiers = inside.getModifiers();
            Check.due(inside + " is static", Modifier.isStatic(modifiers) ? 1 : 0, 1);
            Check.due(inside + " is seen", Modifier.isPublic(modifiers) || Modifier.isProtected(modifiers) ? 1 : 0, 0);
            for (Method m : inside.getDeclaredMethods()) {
                Check.due(inside + " has a public name: " + m.getName(), bearsPublicName(m) ? 1 : 0, 0);
            }
        }
    }

    private static void forbiddenWords(String source) {
        String bare = source.replaceAll("(?s)/\\*.*?\\*/", "").replaceAll("//.*", "");
        String[] words = {"throw", "throws", "try", "catch", "synchronized", "assert", "package", "System.out",
            "Random", "Thread", "->", "::", "Exact("};
        for (String word : words) {
            boolean plain = word.matches("\\w+");
            boolean there = plain ? bare.matches("(?s).*\\b" + word + "\\b.*") : bare.contains(word);
            Check.due("the word " + word, there ? 1 : 0, 0);
        }
        Check.due("bytes beyond 127", source.chars().filter(c -> c > 127).count(), 0);
    }
}
