import java.io.IOException;
import java.lang.reflect.Constructor;
import java.lang.reflect.Field;
import java.lang.reflect.Method;
import java.lang.reflect.Modifier;
import java.nio.file.Files;
import java.nio.file.Path;
import java.util.ArrayList;
import java.util.Arrays;
import java.util.List;

/** Rules of LANGUAGE.md that show in the program's words, or in its classes. */
final class LanguageTest {
    private static final Path SOURCE = Path.of("src/main/java/Shelfwalk.java");
    private static final String[] RULED_OUT = {
        "import ", "package ", "->", "::", "catch", "finally", "assert ", "synchronized", "while (true",
        "Exact(", "System.", "Math.random", "Thread", "String.format", "equals(Object", "hashCode", "toString()",
        "protected ", "static {", "\" +", "+ \"",
    };
    private static final List<Class<?>> NUMBERS =
        List.of(int.class, long.class, short.class, byte.class, char.class, boolean.class, double.class, float.class);
    private static final int LONGEST_METHOD = 60;
    private static final int MOST_PARAMETERS = 7;
    private static final int MOST_CLASSES = 12;
    private static final int MOST_FIELDS = 20;

    public static void main(String[] args) throws IOException {
        List<String> lines = Files.readAllLines(SOURCE);
        checkWords(lines);
        checkSizes(lines);
        List<Class<?>> classes = new ArrayList<>(Arrays.asList(Shelfwalk.class.getDeclaredClasses()));
        for (Class<?> inside : classes) {
            checkInside(inside);
        }
        classes.add(Shelfwalk.class);
        Check.holds("rule 11: few classes", classes.size() <= MOST_CLASSES);
        for (Class<?> one : classes) {
            checkFields(one);
            checkMethods(one);
        }
        Check.end("LanguageTest");
    }

    private static void checkWords(List<String> lines) {
        for (String word : RULED_OUT) {
            Check.same("lines with " + word, lines.stream().filter(line -> line.contains(word)).count(), 0);
        }
        Check.holds("rule 4: signs are plain",
            lines.stream().allMatch(line -> line.chars().allMatch(sign -> sign < 127)));
        Check.same("rule 6: throws of a new exception with a written text", lines.stream()
            .filter(line -> line.contains("throw ") && !line.trim().matches(
                "throw new (IndexOutOfBounds|IllegalArgument|IllegalState)Exception\\(\"[^\"]*\"\\);")).count(), 0);
        Check.same("rule 9: loops without a bound in their first line", lines.stream()
            .filter(line -> line.matches("\\s*(while|do)\\b.*|\\s*for \\(.*;\\s*;.*")).count(), 0);
    }

    private static void checkSizes(List<String> lines) {
        Check.holds("rule 11: short methods", longestMethod(lines) <= LONGEST_METHOD);
        Check.same("rule 12: arrays are made in fields alone", lines.stream()
            .filter(line -> line.matches(".*new \\w+\\[.*") && !line.contains("private final")).count(), 0);
    }

    private static int longestMethod(List<String> lines) {
        int longest = 0;
        int from = 0;
        for (int k = 0; k < lines.size(); k++) {
            String line = lines.get(k);
            if (line.endsWith("{") && line.contains("(") && !line.trim().matches("(if|for|while|switch|\\}).*")) {
                from = k;
            }
            if (line.matches(" {4}( {4})?\\}")) {
                longest = Math.max(longest, Math.min(k - from, 1000));
            }
        }
        return longest;
    }

    /** A class inside that is made of numbers alone can't be handed anything of the object that makes it. */
    private static void checkInside(Class<?> inside) {
        String name = inside.getSimpleName();
        int kind = inside.getModifiers();
        Check.holds("rule 1: " + name + " is not public", !Modifier.isPublic(kind) && !Modifier.isProtected(kind));
        Check.holds("rule 2: " + name + " is static", Modifier.isStatic(kind));
        for (Constructor<?> constructor : inside.getDeclaredConstructors()) {
            Check.holds("rule 12: " + name + " is made of numbers",
                NUMBERS.containsAll(Arrays.asList(constructor.getParameterTypes())));
        }
    }

    private static void checkFields(Class<?> one) {
        int own = 0;
        for (Field field : one.getDeclaredFields()) {
            String name = one.getSimpleName() + "." + field.getName();
            if (Modifier.isStatic(field.getModifiers())) {
                Check.holds("rule 5: " + name + " is a constant",
                    Modifier.isFinal(field.getModifiers()) && NUMBERS.contains(field.getType()));
            } else {
                own++;
                Check.holds("rule 3: " + name + " has a known type", isKnown(field.getType()));
            }
        }
        Check.holds("rule 11: few fields of " + one.getSimpleName(), own <= MOST_FIELDS);
    }

    private static void checkMethods(Class<?> one) {
        for (Method method : one.getDeclaredMethods()) {
            String name = one.getSimpleName() + "." + method.getName();
            Check.holds("rule 11: few parameters of " + name, method.getParameterCount() <= MOST_PARAMETERS);
            for (Class<?> type : method.getParameterTypes()) {
                Check.holds("rule 3: a known type for " + name, isKnown(type));
            }
        }
    }

    private static boolean isKnown(Class<?> type) {
        if (type.isArray() && type.getComponentType().isArray()) {
            return NUMBERS.contains(type.getComponentType().getComponentType());
        }
        Class<?> single = type.isArray() ? type.getComponentType() : type;
        return NUMBERS.contains(single) || single == String.class || single == StringBuilder.class
            || single.getEnclosingClass() == Shelfwalk.class;
    }
}
