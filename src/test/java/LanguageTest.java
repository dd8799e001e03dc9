import java.io.IOException;
import java.lang.reflect.Constructor;
import java.lang.reflect.Field;
import java.lang.reflect.Method;
import java.lang.reflect.Modifier;
import java.nio.file.Files;
import java.nio.file.Path;
import java.util.ArrayList;
import java.util.Arrays;
import java.util.List;
import java.util.Set;
import java.util.TreeSet;
import java.util.regex.Matcher;
import java.util.regex.Pattern;

/** Those rules of LANGUAGE.md, and the face of the document, that can be read off the program. */
public final class LanguageTest {
    private static final Checks CHECKS = new Checks();

    private static final String[] FACE = {
        "int program(int,int,int,int)", "int ofFunction(int,int)", "int step(int,int)",
        "int patch(int,int,int)", "int guard(int,int)", "int live(int)", "int run(int,int)",
        "int performed(int,int)", "int path(int,int)", "int day(int,int,int,int,int)",
        "int witness(int,int)", "int free(int,int)", "int plugs(int)", "int more(int,int)",
        "int reading(int,int)", "int back(int)", "int kinds(int)", "int guards(int)", "int lives()",
        "long odds(int,int,int)", "int sheet(int,int,int)", "int lose(int)", "int put(int,int,int)",
        "long cell(int,int,int)", "int copy(int,int,int,int,int)", "int tell(int)", "int name(int)",
        "int as(int,int)", "int trace()", "int fault()", "int many(int)"
    };

    private static final String[] CONSTANTS = {
        "int UNKNOWN", "int OUTSIDE", "int STATE", "int FULL", "int NONE", "long LOST"
    };

    public static void main(String[] args) throws IOException {
        face();
        for (Class<?> inside : ActRows.class.getDeclaredClasses()) {
            insideClass(inside);
        }
        CHECKS.due("11 at most twelve classes", ActRows.class.getDeclaredClasses().length < 12);
        source(Files.readString(Path.of(args[0])));
        CHECKS.end();
    }

    private static String told(Method m) {
        StringBuilder told = new StringBuilder();
        for (Class<?> type : m.getParameterTypes()) {
            told.append(told.length() == 0 ? "" : ",").append(type.getName());
        }
        return m.getReturnType().getName() + " " + m.getName() + "(" + told + ")";
    }

    private static void face() {
        Class<?> c = ActRows.class;
        CHECKS.due("1 public and final", Modifier.isPublic(c.getModifiers()) && Modifier.isFinal(c.getModifiers()));
        Set<String> methods = new TreeSet<>();
        for (Method m : c.getDeclaredMethods()) {
            if (!Modifier.isPrivate(m.getModifiers())) {
                methods.add(told(m));
                CHECKS.due("1 public " + m.getName(), Modifier.isPublic(m.getModifiers()));
            }
        }
        CHECKS.due("1 methods", methods.equals(new TreeSet<>(Arrays.asList(FACE))));
        Set<String> constants = new TreeSet<>();
        for (Field f : c.getDeclaredFields()) {
            if (!Modifier.isPrivate(f.getModifiers())) {
                constants.add(f.getType().getName() + " " + f.getName());
            }
        }
        CHECKS.due("1 constants", constants.equals(new TreeSet<>(Arrays.asList(CONSTANTS))));
        Constructor<?>[] made = c.getDeclaredConstructors();
        CHECKS.due("1 one constructor", made.length == 1 && made[0].getParameterCount() == 0);
        members(c);
    }

    private static void insideClass(Class<?> c) {
        CHECKS.due("2 static " + c.getName(), Modifier.isStatic(c.getModifiers()));
        CHECKS.due("1 hidden " + c.getName(), !Modifier.isPublic(c.getModifiers()));
        Set<String> names = new TreeSet<>();
        for (String method : FACE) {
            names.add(method.substring(method.indexOf(' ') + 1, method.indexOf('(')));
        }
        for (Method m : c.getDeclaredMethods()) {
            CHECKS.due("1 no public one's name " + m, !names.contains(m.getName()));
        }
        members(c);
    }

    private static void members(Class<?> c) {
        int fields = 0;
        for (Field f : c.getDeclaredFields()) {
            if (!Modifier.isStatic(f.getModifiers())) {
                fields++;
                continue;
            }
            CHECKS.due("5 final " + f, Modifier.isFinal(f.getModifiers()));
            CHECKS.due("5 number " + f, f.getType() == int.class || f.getType() == long.class);
        }
        CHECKS.due("11 fields of " + c.getName(), fields <= 20);
        Set<String> names = new TreeSet<>();
        for (Method m : c.getDeclaredMethods()) {
            CHECKS.due("11 parameters of " + m, m.getParameterCount() <= 7);
            CHECKS.due("1 one name, one method " + m, names.add(m.getName()));
        }
    }

    private static String withoutComments(String source) {
        return source.replaceAll("(?s)/\\*.*?\\*/", " ").replaceAll("//[^\n]*", " ");
    }

    private static void source(String source) {
        CHECKS.due("3 signs", source.chars().allMatch(c -> c == '\n' || c >= 32 && c < 127));
        String code = withoutComments(source);
        for (String word : new String[] {
                "throw", "throws", "try", "catch", "finally", "synchronized", "assert", "package", "native",
                "volatile", "transient", "double", "float", "toString", "hashCode", "equals", "System.out",
                "Exact", "record", "enum"}) {
            CHECKS.due("6 no " + word, !Pattern.compile("\\b" + Pattern.quote(word) + "\\b").matcher(code).find());
        }
        for (String sign : new String[] {"->", "::", "\"", "\\u"}) {
            CHECKS.due("2 no " + sign, !code.contains(sign));
        }
        List<String> imports = new ArrayList<>();
        Matcher m = Pattern.compile("import ([^;]*);").matcher(code);
        while (m.find()) {
            imports.add(m.group(1));
        }
        CHECKS.due("4 imports", imports.equals(List.of("java.util.Arrays")));
        library(code);
        CHECKS.due("12 rows are made in constructors", code.split("\\bnew\\b", -1).length - 1 <= 22);
        lengths(source);
    }

    private static void library(String code) {
        Set<String> allowed = Set.of("System.arraycopy", "Arrays.fill", "Integer.bitCount", "Math.max", "Math.min");
        Matcher m = Pattern.compile("\\b(System|Arrays|Integer|Long|Math|String|Character)\\.\\w+").matcher(code);
        while (m.find()) {
            String used = m.group();
            CHECKS.due("4 library " + used, allowed.contains(used) || used.equals("Long.MIN_VALUE"));
        }
    }

    /** No method is longer than some sixty lines: a line that closes one is never far behind. */
    private static void lengths(String source) {
        int since = 0;
        for (String line : source.split("\n")) {
            since++;
            if (line.equals("    }") || line.equals("        }") || line.isEmpty()) {
                CHECKS.due("11 short", since <= 60);
                since = 0;
            }
        }
    }
}
