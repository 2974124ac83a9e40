import java.io.IOException;
import java.lang.reflect.Field;
import java.lang.reflect.Method;
import java.lang.reflect.Modifier;
import java.nio.file.Files;
import java.nio.file.Path;
import java.util.ArrayList;
import java.util.List;
import java.util.Set;
import java.util.regex.Matcher;
import java.util.regex.Pattern;

/** Rules of LANGUAGE.md that can be seen in the source's words or in the compiled class. */
final class LanguageTest {
    private static final Path SOURCE = Path.of("src/main/java/SectorArchive.java");
    private static final Set<String> LIBRARY = Set.of("System.arraycopy", "Arrays.fill", "Arrays.copyOf", "Arrays.copyOfRange",
            "Math.max", "Math.min", "Math.abs");
    /** No call of the document throws, so that no word of exceptions has a place here either. */
    private static final Set<String> WORDS = Set.of("package", "try", "catch", "throw", "throws", "finally", "synchronized", "assert",
            "instanceof", "volatile", "native", "strictfp", "transient", "var", "yield", "sealed", "permits", "double", "float", "Object",
            "Thread", "Random", "Iterator", "Exception", "equals", "hashCode", "toString", "goto");

    public static void main(String[] args) throws IOException {
        String source = Files.readString(SOURCE);
        String code = source.replaceAll("(?s)/\\*.*?\\*/", "").replaceAll("//[^\n]*", "");
        importsAreListed(code);
        wordsAreAllowed(code);
        libraryIsListed(code);
        methodsAreShort(code);
        List<Class<?>> classes = new ArrayList<>(List.of(SectorArchive.class.getDeclaredClasses()));
        Rig.same("classes, " + (classes.size() + 1), classes.size() + 1 <= 12 ? 1 : 0, 1);
        for (Class<?> c : classes) {
            Rig.same("static and private: " + c, Modifier.isStatic(c.getModifiers()) && !Modifier.isPublic(c.getModifiers())
                    && !Modifier.isProtected(c.getModifiers()) && c.getDeclaredClasses().length == 0 ? 1 : 0, 1);
        }
        classes.add(SectorArchive.class);
        for (Class<?> c : classes) {
            fieldsAreAllowed(c);
            for (Method m : c.getDeclaredMethods()) {
                Rig.same("at most seven parameters: " + m, m.getParameterCount() <= 7 ? 1 : 0, 1);
            }
        }
        Rig.finish();
    }

    private static void importsAreListed(String code) {
        Matcher m = Pattern.compile("(?m)^import (.*);").matcher(code);
        while (m.find()) {
            Rig.same("rule 4: import " + m.group(1), m.group(1).equals("java.util.Arrays") ? 1 : 0, 1);
        }
    }

    private static void wordsAreAllowed(String code) {
        Matcher m = Pattern.compile("\\b[A-Za-z_]\\w*\\b").matcher(code);
        while (m.find()) {
            Rig.same("the word " + m.group(), WORDS.contains(m.group()) ? 1 : 0, 0);
        }
        Rig.same("a lambda or a method reference", code.contains("->") || code.contains("::") ? 1 : 0, 0);
        Rig.same("a static block", Pattern.compile("static\\s*\\{").matcher(code).find() ? 1 : 0, 0);
        Rig.same("an annotation", code.contains("@") ? 1 : 0, 0);
    }

    private static void libraryIsListed(String code) {
        Matcher m = Pattern.compile("\\b(System|Arrays|Math|Integer|Long|String|StringBuilder|List|ArrayList)\\.\\w+").matcher(code);
        while (m.find()) {
            Rig.same("rule 4: " + m.group(), LIBRARY.contains(m.group()) || m.group().equals("java.util.Arrays") ? 1 : 0, 1);
        }
    }

    /** A method begins at a line that ends with ") {" in its class's depth, and ends with the brace of that depth. */
    private static void methodsAreShort(String code) {
        String[] lines = code.split("\n");
        for (int i = 0; i < lines.length; i++) {
            boolean outer = lines[i].matches(" {4}\\S.*\\) \\{");
            boolean nested = lines[i].matches(" {8}\\S.*\\) \\{") && !lines[i].matches(" *(if|for|while|switch|do|\\}) ?.*");
            if (outer || nested) {
                String end = (outer ? " ".repeat(4) : " ".repeat(8)) + "}";
                int length = 1;
                while (i + length < lines.length && !lines[i + length].equals(end)) {
                    length++;
                }
                Rig.same("rule 11: a method of " + length + " lines: " + lines[i].trim(), length <= 60 ? 1 : 0, 1);
            }
        }
    }

    private static void fieldsAreAllowed(Class<?> c) {
        int held = 0;
        for (Field f : c.getDeclaredFields()) {
            boolean isStatic = Modifier.isStatic(f.getModifiers());
            held += isStatic ? 0 : 1;
            Rig.same("rule 5: " + f, isStatic && (!Modifier.isFinal(f.getModifiers()) || f.getType() != int.class) ? 1 : 0, 0);
        }
        Rig.same("rule 11: fields of " + c + ", " + held, held <= 20 ? 1 : 0, 1);
    }
}
