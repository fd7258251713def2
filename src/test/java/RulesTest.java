import java.io.IOException;
import java.lang.reflect.Constructor;
import java.lang.reflect.Field;
import java.lang.reflect.Method;
import java.lang.reflect.Modifier;
import java.nio.file.Files;
import java.nio.file.Path;
import java.util.Arrays;
import java.util.HashSet;
import java.util.Set;
import java.util.TreeSet;
import java.util.regex.Matcher;
import java.util.regex.Pattern;

/** What of ../shared/LANGUAGE.md can be looked at in the file and in its classes. */
public final class RulesTest {
    private static final Path SOURCE = Path.of("src/main/java/OthersShoes.java");
    private static final String FACE = "feed(int,int,int,int,int)int end(int)boolean land()int fault(int)int has(int)int "
        + "letter(int,int,int)int miles(int,int)int next(int,int)int pair(int,int)int walker(int,int)int shelf(int)int "
        + "gets(int)int tries(int,int)int where(int,int,int)int firm(int,int)int odd(int,int,int)int deal(int)int "
        + "lawed(int)int later(int,int,int)int arrives(int)int see()int prints(int)int tells(int)int cross(int)int "
        + "back(int)int law(int)boolean days(int)int chance(int)int undo()boolean seed(int)boolean ask()long image()int "
        + "octet(int)int on()boolean status(int)int";

    private RulesTest() {
    }

    public static void main(String[] args) throws IOException {
        face();
        classesInside();
        words(Files.readString(SOURCE));
        Checks.finish("RulesTest");
    }

    private static void ban(String what, boolean found) {
        Checks.due(what, found, false);
    }

    private static void face() {
        Class<?> it = OthersShoes.class;
        Checks.due("public and final", Modifier.isPublic(it.getModifiers()) && Modifier.isFinal(it.getModifiers()), true);
        Set<String> open = new TreeSet<>();
        Set<String> names = new HashSet<>();
        for (Method m : it.getDeclaredMethods()) {
            if (!Modifier.isPrivate(m.getModifiers())) {
                String kinds = String.join(",", Arrays.stream(m.getParameterTypes()).map(Class::getName).toList());
                open.add(m.getName() + "(" + kinds + ")" + m.getReturnType().getName());
                names.add(m.getName());
                Checks.due("public " + m, Modifier.isPublic(m.getModifiers()), true);
            }
        }
        Checks.due("the face is the document's", open.equals(new TreeSet<>(Arrays.asList(FACE.split(" ")))), true);
        for (Class<?> c : allClasses()) {
            for (Method m : c.getDeclaredMethods()) {
                boolean inside = c != it || Modifier.isPrivate(m.getModifiers());
                ban("the name of a public one: " + m, inside && names.contains(m.getName()));
                ban("of its own: " + m, Set.of("equals", "hashCode", "toString").contains(m.getName()));
            }
        }
        for (Field f : it.getDeclaredFields()) {
            boolean constant = Set.of("NONE", "NOTHING").contains(f.getName());
            Checks.due("open or not: " + f, Modifier.isPublic(f.getModifiers()), constant);
            ban("package-visible: " + f, !constant && !Modifier.isPrivate(f.getModifiers()));
        }
        Constructor<?>[] made = it.getDeclaredConstructors();
        Checks.due("constructors", made.length, 1);
        Checks.due("its parameters", made[0].getParameterCount(), 0);
        Checks.due("NONE", OthersShoes.NONE, -1);
        Checks.due("NOTHING", OthersShoes.NOTHING, -1000000000000000L);
    }

    private static Class<?>[] allClasses() {
        Class<?>[] inside = OthersShoes.class.getDeclaredClasses();
        Class<?>[] all = Arrays.copyOf(inside, inside.length + 1);
        all[inside.length] = OthersShoes.class;
        return all;
    }

    private static void classesInside() {
        Class<?>[] all = allClasses();
        ban("more than twelve classes", all.length > 12);
        for (Class<?> c : all) {
            boolean inside = c != OthersShoes.class;
            ban("not static: " + c, inside && !Modifier.isStatic(c.getModifiers()));
            ban("open: " + c, inside && (Modifier.isPublic(c.getModifiers()) || Modifier.isProtected(c.getModifiers())));
            ban("a class inside a class inside: " + c, inside && c.getDeclaredClasses().length > 0);
            int fields = 0;
            for (Field f : c.getDeclaredFields()) {
                boolean fixed = Modifier.isStatic(f.getModifiers());
                ban("static and not final: " + f, fixed && !Modifier.isFinal(f.getModifiers()));
                fields += fixed ? 0 : 1;
            }
            ban("more than twenty fields: " + c, fields > 20);
            for (Method m : c.getDeclaredMethods()) {
                ban("more than seven parameters: " + m, m.getParameterCount() > 7);
                ban("made by the compiler: " + m, m.isSynthetic());
            }
        }
    }

    private static void words(String source) {
        String bare = source.replaceAll("(?s)/\\*.*?\\*/", " ").replaceAll("//[^\n]*", " ").replaceAll("\"[^\"\n]*\"", "\"\"")
            .replaceAll("'[^']*'", "' '");
        String[] banned = {"throw", "throws", "try", "catch", "finally", "synchronized", "assert", "package", "protected",
            "volatile", "native", "transient", "var", "yield", "Object", "System\\.(?!arraycopy)", "->", "::", "Exact",
            "@", "double", "float", "new String", "String\\.", "Thread", "Random", "static \\{"};
        for (String it : banned) {
            Matcher m = Pattern.compile(it.matches("\\w+") ? "\\b" + it + "\\b" : it).matcher(bare);
            ban("banned: " + it, m.find());
        }
        Matcher imports = Pattern.compile("import ([^;]+);").matcher(bare);
        while (imports.find()) {
            ban("import " + imports.group(1), !Set.of("java.util.Arrays", "java.util.List", "java.util.ArrayList")
                .contains(imports.group(1)));
        }
        Matcher arrays = Pattern.compile("Arrays\\.(\\w+)").matcher(bare);
        while (arrays.find()) {
            ban("Arrays." + arrays.group(1), !Set.of("fill", "copyOf", "copyOfRange").contains(arrays.group(1)));
        }
        Matcher math = Pattern.compile("Math\\.(\\w+)").matcher(bare);
        while (math.find()) {
            ban("Math." + math.group(1), !Set.of("max", "min", "abs", "floorDiv", "floorMod").contains(math.group(1)));
        }
        for (char sign : source.toCharArray()) {
            if (sign > 126) {
                ban("a sign above 126", true);
            }
        }
    }
}
