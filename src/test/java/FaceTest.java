import java.io.IOException;
import java.lang.reflect.Constructor;
import java.lang.reflect.Field;
import java.lang.reflect.Method;
import java.lang.reflect.Modifier;
import java.nio.file.Files;
import java.nio.file.Path;
import java.util.Arrays;
import java.util.List;
import java.util.Set;
import java.util.TreeSet;
import java.util.regex.Pattern;

/** The public face, and those rules of LANGUAGE.md that a look at the class and its source can tell. */
public final class FaceTest {
    private static final String SOURCE = "src/main/java/WarmChairs.java";

    public static void main(String[] args) throws IOException {
        constants();
        members();
        nested();
        source();
        Check.end();
    }

    private static void constants() {
        Check.due("NONE", WarmChairs.NONE, -1);
        Check.due("BAD", WarmChairs.BAD, -2);
        Check.due("STATE", WarmChairs.STATE, -3);
        Check.due("FULL", WarmChairs.FULL, -4);
        Check.due("NO", WarmChairs.NO, -4611686018427387904L);
    }

    private static void members() {
        Class<?> c = WarmChairs.class;
        Check.holds("public and final", Modifier.isPublic(c.getModifiers()) && Modifier.isFinal(c.getModifiers()));
        Set<String> face = new TreeSet<>(List.of("one iii", "wish iii", "oneTold ii", "house ii", "count i", "feed iiiiii",
            "text ", "force i", "asks iiiii", "chair ii", "mend iii", "chairTold ii", "of iii", "chairOf iii", "all ii",
            "cold ", "begin i", "take i", "order i", "invite ", "late ii", "lent ii", "move i", "ever iii", "fewest ii",
            "judge ii", "Lwere ii", "laws ii", "film ii", "drawn i", "Lodds iiii", "image ", "back ", "sheet iii",
            "cell iii", "copy iiiii", "onesBy iiii", "taken ii"));
        Check.due("38 methods", face.size(), 38);
        Set<String> names = new TreeSet<>();
        Set<String> found = new TreeSet<>();
        for (Method m : c.getDeclaredMethods()) {
            if (Modifier.isPrivate(m.getModifiers()) || m.isSynthetic()) continue;
            Check.holds("public, not static: " + m, Modifier.isPublic(m.getModifiers()) && !Modifier.isStatic(m.getModifiers()));
            names.add(m.getName());
            String kinds = "";
            for (Class<?> k : m.getParameterTypes()) kinds += k == int.class ? "i" : "?";
            found.add((m.getReturnType() == long.class ? "L" : m.getReturnType() == int.class ? "" : "?") + m.getName() + " " + kinds);
        }
        Check.holds("the methods are the document's: " + found, found.equals(face));
        for (Method m : c.getDeclaredMethods()) {
            if (Modifier.isPrivate(m.getModifiers())) Check.holds("no name of a public one: " + m, !names.contains(m.getName()));
        }
        for (Field f : c.getDeclaredFields()) {
            boolean told = List.of("NONE", "BAD", "STATE", "FULL", "NO").contains(f.getName());
            Check.holds("a field: " + f, told ? Modifier.isPublic(f.getModifiers()) : Modifier.isPrivate(f.getModifiers()));
        }
        Constructor<?>[] made = c.getDeclaredConstructors();
        Check.holds("one public constructor", made.length == 1 && Modifier.isPublic(made[0].getModifiers())
            && made[0].getParameterCount() == 0);
    }

    private static void nested() {
        Set<String> face = new TreeSet<>();
        for (Method m : WarmChairs.class.getMethods()) face.add(m.getName());
        Class<?>[] inside = WarmChairs.class.getDeclaredClasses();
        Check.holds("at most twelve classes", inside.length <= 11);
        for (Class<?> k : inside) {
            Check.holds("static: " + k, Modifier.isStatic(k.getModifiers()));
            Check.holds("not public: " + k, !Modifier.isPublic(k.getModifiers()) && !Modifier.isProtected(k.getModifiers()));
            int fields = 0;
            for (Field f : k.getDeclaredFields()) {
                if (!Modifier.isStatic(f.getModifiers())) fields++;
                else Check.holds("static and final: " + f, Modifier.isFinal(f.getModifiers()));
            }
            Check.holds("at most twenty fields: " + k, fields <= 20);
            for (Method m : k.getDeclaredMethods()) {
                Check.holds("no name of the face: " + m, !face.contains(m.getName()));
                Check.holds("at most seven parameters: " + m, m.getParameterCount() <= 7);
            }
        }
    }

    private static void source() throws IOException {
        String text = Files.readString(Path.of(SOURCE));
        Check.holds("signs 1 to 127", text.chars().allMatch(ch -> ch == '\n' || ch >= 32 && ch < 127));
        String code = text.replaceAll("(?s)/\\*.*?\\*/", " ").replaceAll("//[^\n]*", " ").replaceAll("\"[^\"\n]*\"", "\"\"");
        for (String word : new String[] {"throw", "throws", "try", "catch", "finally", "synchronized", "assert", "package",
            "native", "volatile", "transient", "Object", "System\\.(?!arraycopy)", "Thread", "Random", "hashCode", "toString",
            "Exact", "->", "::", "@", "var", "double", "float"}) {
            Check.holds("without " + word, !Pattern.compile(word.matches("\\w+") ? "\\b" + word + "\\b" : word).matcher(code).find());
        }
        List<String> imports = Arrays.stream(code.split("\n")).filter(l -> l.startsWith("import")).toList();
        Check.holds("imports: " + imports, imports.equals(List.of("import java.util.Arrays;")));
        methodsAreShort(text);
    }

    /** A method begins and ends with four or eight blanks ahead of its braces. */
    private static void methodsAreShort(String text) {
        String[] lines = text.split("\n");
        int began = -1;
        for (int i = 0; i < lines.length; i++) {
            if (lines[i].matches(" {4}( {4})?[^ /*].*\\) \\{")) began = i;
            if (!lines[i].matches(" {4}( {4})?\\}") || began < 0) continue;
            Check.holds("short: " + lines[began], i - began < 60);
            began = -1;
        }
    }
}
