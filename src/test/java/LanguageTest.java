import java.io.IOException;
import java.lang.reflect.Constructor;
import java.lang.reflect.Executable;
import java.lang.reflect.Field;
import java.lang.reflect.Method;
import java.lang.reflect.Modifier;
import java.nio.file.Files;
import java.nio.file.Path;
import java.util.Arrays;
import java.util.HashSet;
import java.util.List;
import java.util.Set;
import java.util.TreeSet;
import java.util.regex.Matcher;
import java.util.regex.Pattern;

/** Rules of ../shared/LANGUAGE.md that can be looked at from outside. Run in the project's folder. */
public final class LanguageTest {
    private static final String[] FACE = {
        "boolean end(int)", "boolean rule(int,int)", "int agree()", "int back()", "int been(int,int)",
        "int bring(int,int)", "int cobbler(int,int,int,int,int)", "int count(int)", "int dream(int,int,int)",
        "int envy(int)", "int evening(int,int,int)", "int fault(int)", "int feed(int,int,int,int,int)",
        "int fits(int,int)", "int hide(int,int,int,int,int)", "int host(int,int,int,int)", "int image()",
        "int left(int,int,int)", "int likely(int,int,int)", "int lost()", "int odd(int,int,int)",
        "int orders(int,int,int,int)", "int pair(int,int)", "int person(int,int)", "int quiet(int,int)",
        "int rests(int,int,int,int)", "int sight(int,int,int)", "int steady()", "int swap(int,int,int,int,int)",
        "int text(int)", "int tried(int,int,int,int)", "int worst(int,int,int)", "int year(int,long)"};

    public static void main(String[] args) throws IOException {
        face();
        members();
        for (Class<?> inside : BestPair.class.getDeclaredClasses()) {
            inside(inside);
        }
        Check.due("classes", BestPair.class.getDeclaredClasses().length + 1 <= 12, true);
        String source = Files.readString(Path.of("src/main/java/BestPair.java"));
        source(source.replaceAll("(?s)/\\*.*?\\*/", "").replaceAll("//[^\n]*", ""));
        methodLengths(source);
        Check.end("LanguageTest");
    }

    private static void face() {
        Set<String> found = new TreeSet<>();
        for (Method m : BestPair.class.getDeclaredMethods()) {
            if (Modifier.isPublic(m.getModifiers())) {
                found.add(told(m));
            }
        }
        Check.due("the face: " + found, found.equals(new TreeSet<>(Arrays.asList(FACE))), true);
        Check.due("final", Modifier.isFinal(BestPair.class.getModifiers()), true);
        Check.due("public", Modifier.isPublic(BestPair.class.getModifiers()), true);
        Check.due("constructors", BestPair.class.getDeclaredConstructors().length, 1);
        Check.due("public constructors", BestPair.class.getConstructors().length, 1);
        Set<String> constants = new TreeSet<>();
        for (Field f : BestPair.class.getFields()) {
            constants.add(f.getType() + " " + f.getName());
        }
        Check.due("constants: " + constants, constants.equals(Set.of("int NONE", "int HIDDEN")), true);
    }

    private static String told(Method m) {
        StringBuilder text = new StringBuilder(m.getReturnType() + " " + m.getName() + "(");
        for (Class<?> p : m.getParameterTypes()) {
            text.append(text.charAt(text.length() - 1) == '(' ? "" : ",").append(p);
        }
        return text.append(")").toString();
    }

    private static Set<String> faceNames() {
        Set<String> names = new HashSet<>();
        for (String method : FACE) {
            names.add(method.replaceAll("^\\w+ |\\(.*", ""));
        }
        return names;
    }

    private static void members() {
        Set<String> names = faceNames();
        for (Method m : BestPair.class.getDeclaredMethods()) {
            boolean isPrivate = Modifier.isPrivate(m.getModifiers());
            Check.due(m + " is of the face or private", isPrivate || Modifier.isPublic(m.getModifiers()), true);
            Check.due(m + " has a name of its own", isPrivate && names.contains(m.getName()), false);
            parameters(m);
        }
        for (Field f : BestPair.class.getDeclaredFields()) {
            int how = f.getModifiers();
            Check.due(f + " is of the face or private", Modifier.isPrivate(how) || Modifier.isPublic(how), true);
            staticsAreFinal(f);
        }
        fieldCount(BestPair.class);
    }

    private static void parameters(Executable m) {
        Check.due(m + " has seven parameters at most", m.getParameterCount() <= 7, true);
    }

    private static void staticsAreFinal(Field f) {
        int how = f.getModifiers();
        Check.due(f + " is final if static", !Modifier.isStatic(how) || Modifier.isFinal(how), true);
    }

    private static void fieldCount(Class<?> c) {
        long many = Arrays.stream(c.getDeclaredFields()).filter(f -> !Modifier.isStatic(f.getModifiers())).count();
        Check.due(c + " has twenty fields at most", many <= 20, true);
    }

    private static void inside(Class<?> c) {
        int how = c.getModifiers();
        Check.due(c + " is static", Modifier.isStatic(how), true);
        Check.due(c + " is private or the package's", Modifier.isPublic(how) || Modifier.isProtected(how), false);
        for (Method m : c.getDeclaredMethods()) {
            Check.due(m + " has a name of its own", faceNames().contains(m.getName()), false);
            parameters(m);
        }
        for (Constructor<?> m : c.getDeclaredConstructors()) {
            parameters(m);
        }
        for (Field f : c.getDeclaredFields()) {
            staticsAreFinal(f);
        }
        fieldCount(c);
    }

    private static void source(String code) {
        Matcher imports = Pattern.compile("import ([^;]*);").matcher(code);
        Set<String> found = new TreeSet<>();
        while (imports.find()) {
            found.add(imports.group(1));
        }
        Check.due("imports: " + found,
                Set.of("java.util.Arrays", "java.util.NoSuchElementException").containsAll(found), true);
        for (String word : List.of("->", "::", "synchronized", "assert", "try", "catch", "finally", "package",
                "instanceof", "Exact(", "float", "double", "System.out", "Object", "equals(", "hashCode", "toString")) {
            Check.due("no " + word, code.contains(word), false);
        }
        Check.due("no joined texts", Pattern.compile("\"\\s*\\+|\\+\\s*\"").matcher(code).find(), false);
        Check.due("signs 1 to 127", code.chars().allMatch(c -> c > 0 && c < 128), true);
        Matcher thrown = Pattern.compile("throw new (\\w+)").matcher(code);
        while (thrown.find()) {
            Check.due("throws " + thrown.group(1), thrown.group(1).equals("NoSuchElementException"), true);
        }
        Matcher library = Pattern.compile("\\b(Arrays|Integer|Math|System)\\.(\\w+)").matcher(code);
        while (library.find()) {
            Check.due("library " + library.group(), Set.of("Arrays.fill", "Integer.bitCount", "Math.max", "Math.min",
                    "System.arraycopy").contains(library.group()), true);
        }
    }

    private static void methodLengths(String source) {
        Matcher method = Pattern.compile("(?m)^( {4}| {8})[\\w\\[\\]]+ ?[^=;\n]*\\)[^;\n]*\\{\n((?:.*\n)*?)\\1\\}").matcher(source);
        int many = 0;
        while (method.find()) {
            many++;
            Check.due(method.group().split("\n")[0].trim() + " is short", method.group(2).lines().count() <= 60, true);
        }
        Check.due("methods were found", many > 100, true);
    }
}
