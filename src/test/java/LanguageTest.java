import java.lang.reflect.Constructor;
import java.lang.reflect.Field;
import java.lang.reflect.Method;
import java.lang.reflect.Modifier;
import java.nio.charset.StandardCharsets;
import java.nio.file.Files;
import java.nio.file.Path;
import java.util.ArrayList;
import java.util.List;
import java.util.Set;
import java.util.TreeSet;
import java.util.regex.Matcher;
import java.util.regex.Pattern;

/** What can be seen of the rules of LANGUAGE.md from the source, run from the project's root, and from the class. */
public final class LanguageTest {
    private static final String FACE = "cross(int,int,int) drift(int) evening() fault() feed(int,long) found(int) goBack(int) "
            + "heavier(int) hills() hired(int,int) keep(int) know(int,int,boolean) man(int,int) most(int,int) named(int,int) "
            + "names(int,int) odds() orders() ox(int,int) row(int,int) see(int,int,boolean) seed(int) tear() tellings(int) "
            + "told(int) whom(int,int) wrong(int) bridge(int,int)";

    private static final String[] RULED_OUT = {
        "throw", "throws", "try", "catch", "finally", "synchronized", "assert", "import", "package", "new Object", "hashCode",
        "toString", "equals", "instanceof", "System.out", "System.nanoTime", "System.currentTimeMillis", "Math.random",
        "Random", "Thread", "float", "double", "var", "protected", "volatile", "native", "Exact", "record", "sealed", "HashMap",
    };

    public static void main(String[] args) throws Exception {
        String source = Files.readString(Path.of("src/main/java/HeavierToCome.java"), StandardCharsets.UTF_8);
        String code = withoutTexts(source);
        for (String word : RULED_OUT) {
            Check.due("'" + word + "' in the source", count("\\b" + Pattern.quote(word) + "\\b", code), 0);
        }
        Check.due("'->' in the source", count("->", code), 0);
        Check.due("'::' in the source", count("::", code), 0);
        Check.due("signs over 126 in the source", count("[^\\x00-\\x7e]", source), 0);
        Check.due("'@' in the source", count("@", code), 0);
        Check.due("tops of classes", count("\\bclass\\b", code) <= 12 ? 1 : 0, 1);
        library(code);
        members();
        for (Class<?> inside : classes()) {
            fields(inside);
            methods(inside);
        }
        longMethods(source);
        Check.end("language");
    }

    private static String withoutTexts(String source) {
        return source.replaceAll("(?s)/\\*.*?\\*/", " ").replaceAll("//[^\n]*", " ").replaceAll("\"[^\"\n]*\"", "\"\"");
    }

    /** Rule 4: of the library only what the rule lists, as far as the class uses any. */
    private static void library(String code) {
        Set<String> allowed = Set.of("System.arraycopy", "Math.max", "Math.min");
        Matcher found = Pattern.compile("\\b[A-Z]\\w*\\.[a-z]\\w*(?=\\()").matcher(code);
        while (found.find()) {
            Check.due(found.group() + " is of the library that is left", allowed.contains(found.group()) ? 1 : 0, 1);
        }
        Set<String> made = new TreeSet<>();
        for (Class<?> inside : classes()) {
            made.add(inside.getSimpleName());
        }
        found = Pattern.compile("\\bnew\\s+(\\w+)").matcher(code);
        while (found.find()) {
            String name = found.group(1);
            Check.due("new " + name, made.contains(name) || name.equals("int") || name.equals("byte") ? 1 : 0, 1);
        }
    }

    private static int count(String pattern, String text) {
        Matcher found = Pattern.compile(pattern).matcher(text);
        int count = 0;
        while (found.find()) {
            count++;
        }
        return count;
    }

    private static List<Class<?>> classes() {
        List<Class<?>> all = new ArrayList<>(List.of(HeavierToCome.class.getDeclaredClasses()));
        all.add(HeavierToCome.class);
        return all;
    }

    /** Rule 1: the face and nothing else that is not private. */
    private static void members() {
        Class<?> face = HeavierToCome.class;
        Check.due("public final class", face.getModifiers() & (Modifier.PUBLIC | Modifier.FINAL), Modifier.PUBLIC | Modifier.FINAL);
        Set<String> methods = new TreeSet<>();
        Set<String> names = new TreeSet<>();
        for (Method method : face.getDeclaredMethods()) {
            if (Modifier.isPublic(method.getModifiers())) {
                methods.add(signature(method));
                names.add(method.getName());
                Check.due(signature(method) + " answers int", method.getReturnType() == int.class ? 1 : 0, 1);
                Check.due(signature(method) + " is of an object", Modifier.isStatic(method.getModifiers()) ? 1 : 0, 0);
            } else {
                Check.due(method + " is private", method.getModifiers() & Modifier.PRIVATE, Modifier.PRIVATE);
            }
        }
        Check.due("the methods", methods.toString(), new TreeSet<>(List.of(FACE.split(" "))).toString());
        Constructor<?>[] made = face.getDeclaredConstructors();
        Check.due("constructors", made.length, 1);
        Check.due("public constructor", made[0].getModifiers() & Modifier.PUBLIC, Modifier.PUBLIC);
        Set<String> constants = new TreeSet<>();
        for (Field field : face.getDeclaredFields()) {
            if (Modifier.isPublic(field.getModifiers())) {
                constants.add(field.getName());
            } else {
                Check.due(field + " is private", field.getModifiers() & Modifier.PRIVATE, Modifier.PRIVATE);
            }
        }
        Check.due("the constants", constants.toString(), "[FULL, NONE, NOT, OUTSIDE, UNKNOWN]");
        for (Class<?> inside : face.getDeclaredClasses()) {
            Check.due(inside + " is static", inside.getModifiers() & Modifier.STATIC, Modifier.STATIC);
            for (Method method : inside.getDeclaredMethods()) {
                Check.due(method + " bears no name of the face", names.contains(method.getName()) ? 1 : 0, 0);
            }
        }
    }

    private static String signature(Method method) {
        StringBuilder all = new StringBuilder(method.getName()).append('(');
        for (Class<?> type : method.getParameterTypes()) {
            all.append(all.charAt(all.length() - 1) == '(' ? "" : ",").append(type.getName());
        }
        return all.append(')').toString();
    }

    /** Rules 5 and 11: static fields are final constants; some twenty others. */
    private static void fields(Class<?> inside) {
        int own = 0;
        for (Field field : inside.getDeclaredFields()) {
            if (Modifier.isStatic(field.getModifiers())) {
                Check.due(field + " is final", field.getModifiers() & Modifier.FINAL, Modifier.FINAL);
                Check.due(field + " is a number", field.getType().isPrimitive() ? 1 : 0, 1);
            } else {
                own++;
            }
        }
        Check.due(inside + ": few fields", own <= 20 ? 1 : 0, 1);
    }

    private static void methods(Class<?> inside) {
        for (Method method : inside.getDeclaredMethods()) {
            Check.due(method + ": few parameters", method.getParameterCount() <= 7 ? 1 : 0, 1);
        }
    }

    /** Rule 11: some sixty lines a method. */
    private static void longMethods(String source) {
        int start = 0;
        int depthOfMethod = 0;
        String[] lines = source.split("\n");
        for (int k = 0; k < lines.length; k++) {
            boolean opens = lines[k].matches("    (    )?[a-zA-Z].*\\) \\{");
            if (opens) {
                start = k;
                depthOfMethod = lines[k].indexOf(lines[k].trim());
            }
            if (lines[k].equals(" ".repeat(depthOfMethod) + "}") && depthOfMethod > 0) {
                Check.due("the method at line " + (start + 1) + " is short", k - start <= 60 ? 1 : 0, 1);
                depthOfMethod = 0;
            }
        }
    }
}
