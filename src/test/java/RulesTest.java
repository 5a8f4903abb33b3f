import java.io.IOException;
import java.lang.reflect.Constructor;
import java.lang.reflect.Field;
import java.lang.reflect.Method;
import java.lang.reflect.Modifier;
import java.nio.file.Files;
import java.nio.file.Path;
import java.util.ArrayList;
import java.util.HashSet;
import java.util.List;
import java.util.Set;
import java.util.regex.Pattern;

/** The rules of LANGUAGE.md that can be seen from outside, and the face that the document shows. */
public final class RulesTest {
    private static final Check CHECK = new Check();

    public static void main(String[] args) throws IOException {
        String source = Files.readString(Path.of("src/main/java/TintDesk.java"));
        List<String> face = faceOf(Files.readAllLines(Path.of("../shared/DOC.md")));
        faceIsAsDocumented(source, face);
        nothingElseIsOpen(face.size());
        classesInside();
        wordsThatAreRuledOut(source);
        methodsAreShort(source);
        CHECK.end();
    }

    private static List<String> faceOf(List<String> lines) {
        List<String> face = new ArrayList<>();
        for (String line : lines) {
            if (line.startsWith("    public ")) {
                face.add(line.substring(0, line.lastIndexOf(';')));
            }
        }
        CHECK.same("the document shows a face", true, face.size() > 30);
        return face;
    }

    private static void faceIsAsDocumented(String source, List<String> face) {
        int before = 0;
        for (String line : face) {
            int at = source.indexOf("\n" + line + " {");
            CHECK.same("the face has, in its place, " + line, true, at > before);
            before = at;
        }
    }

    private static void nothingElseIsOpen(int faceSize) {
        int open = 0;
        Set<String> openNames = new HashSet<>();
        for (Method method : TintDesk.class.getDeclaredMethods()) {
            if (!Modifier.isPrivate(method.getModifiers())) {
                CHECK.same(method + " is public", true, Modifier.isPublic(method.getModifiers()));
                openNames.add(method.getName());
                open++;
            }
        }
        for (Constructor<?> made : TintDesk.class.getDeclaredConstructors()) {
            CHECK.same(made + " is public", true, Modifier.isPublic(made.getModifiers()));
            open++;
        }
        CHECK.same("rule 1: public members", faceSize, open);
        for (Field field : TintDesk.class.getDeclaredFields()) {
            CHECK.same("rule 1: private " + field, true, Modifier.isPrivate(field.getModifiers()));
        }
        for (Class<?> inside : allClasses()) {
            for (Method method : inside.getDeclaredMethods()) {
                boolean isOpen = inside == TintDesk.class && Modifier.isPublic(method.getModifiers());
                CHECK.same("rule 1: name of " + method, false, !isOpen && openNames.contains(method.getName()));
                CHECK.same("rule 11: parameters of " + method, true, method.getParameterCount() <= 7);
            }
        }
    }

    private static List<Class<?>> allClasses() {
        List<Class<?>> all = new ArrayList<>();
        all.add(TintDesk.class);
        all.addAll(List.of(TintDesk.class.getDeclaredClasses()));
        return all;
    }

    private static void classesInside() {
        CHECK.same("rule 11: at most twelve classes", true, allClasses().size() <= 12);
        for (Class<?> inside : allClasses()) {
            int fields = 0;
            for (Field field : inside.getDeclaredFields()) {
                boolean isStatic = Modifier.isStatic(field.getModifiers());
                CHECK.same("rule 5: final " + field, true, !isStatic || Modifier.isFinal(field.getModifiers()));
                fields += isStatic ? 0 : 1;
            }
            CHECK.same("rule 11: fields of " + inside, true, fields <= 20);
            boolean isNested = inside != TintDesk.class;
            CHECK.same("rule 2: static " + inside, isNested, Modifier.isStatic(inside.getModifiers()));
        }
    }

    private static void wordsThatAreRuledOut(String source) {
        String code = source.replaceAll("(?s)/\\*.*?\\*/", "").replaceAll("//[^\n]*", "");
        String[] words = {"->", "::", "\\btry\\b", "\\bcatch\\b", "\\bfinally\\b", "\\bassert\\b", "\\bsynchronized\\b",
            "\\bequals\\b", "\\bhashCode\\b", "\\btoString\\b", "Exact\\b", "\\bSystem\\.(?!arraycopy)", "\\bRandom\\b",
            "\\bThread\\b", "\\bwhile *\\(true\\)", "\\bstatic *\\{", "\" *\\+", "\\+ *\""};
        for (String word : words) {
            CHECK.same("the code has no " + word, false, Pattern.compile(word).matcher(code).find());
        }
        CHECK.same("the file has signs 1 to 126 alone", true, source.chars().allMatch(c -> c > 0 && c < 127));
    }

    private static void methodsAreShort(String source) {
        int start = 0;
        String[] lines = source.split("\n");
        for (int i = 0; i < lines.length; i++) {
            boolean isHead = lines[i].matches(" {4}( {4})?[a-z].*\\) .*\\{");
            start = isHead ? i : start;
            if (lines[i].matches(" {4}( {4})?\\}")) {
                CHECK.same("rule 11: a short method at " + start, true, i - start <= 60 || lines[start].contains("class"));
            }
        }
    }
}
