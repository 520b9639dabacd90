import java.io.IOException;
import java.lang.reflect.Constructor;
import java.lang.reflect.Field;
import java.lang.reflect.Method;
import java.lang.reflect.Modifier;
import java.nio.file.Files;
import java.nio.file.Path;
import java.util.Arrays;
import java.util.List;
import java.util.Set;
import java.util.TreeSet;
import java.util.stream.Collectors;

/** The public face, and those rules of ../shared/LANGUAGE.md that can be looked up. */
public final class FaceTest {
    private static final String FACE = "int status()|int feed(int,int,int,int,int)|int load(int)|int fault(int)"
        + "|int many(int)|int hunter(int,int)|int unit(int,int)"
        + "|int applicant(int,int)|int choice(int,int)|int demand(int,int)"
        + "|int share(int,int)|int order(int,int)|int drawn(int,int)|int round(int,int)|int left(int,int,int)"
        + "|int winners(int)|int waits(int,int,int)|int next(int,int,int)|int envies(int,int)|int spoils(int,int)"
        + "|int behind(int,int)|int lucky(int,int)|long chance(int,int)|long at(int,int)|long both(int,int)"
        + "|int sure(int)|long mean(int)|int given(int)|int ends()|int need(int,int)|int wise(int)|long wiseChance(int)"
        + "|long together(int,int)|long apart(int)|int likes(int)|int years(int,int,int)|int often(int,int,int)"
        + "|int soonest(int,int,int)|int draw(int)|int points(int,int)|int quota(int,int)|int choose(int,int,int,int)"
        + "|int law(int)|int prefer(int)|int guests(int)|int split(int)|int undo()|int print(int)|int out(int)";
    private static final List<String> RULED_OUT = List.of("throw", "try", "catch", "synchronized", "assert", "import",
        "->", "::", "double", "float", "Exact", "static {", "protected ", "equals", "hashCode", "toString");

    private static int wrong;

    public static void main(String[] args) throws IOException {
        face();
        classesInside();
        text();
        System.out.println("FaceTest: " + (wrong == 0 ? "all is as ruled" : wrong + " things are not as ruled"));
        if (wrong != 0) {
            System.exit(1);
        }
    }

    private static void check(boolean fine, String what) {
        if (!fine) {
            wrong++;
            System.out.println(what);
        }
    }

    private static void face() {
        Set<String> methods = new TreeSet<>();
        for (Method m : TagDraw.class.getDeclaredMethods()) {
            if (!Modifier.isPrivate(m.getModifiers())) {
                check(Modifier.isPublic(m.getModifiers()) && !Modifier.isStatic(m.getModifiers()), "rule 1: " + m);
                methods.add(m.getReturnType() + " " + m.getName() + "("
                    + Arrays.stream(m.getParameterTypes()).map(Class::getName).collect(Collectors.joining(",")) + ")");
            }
        }
        Set<String> due = new TreeSet<>(Arrays.asList(FACE.split("\\|")));
        check(methods.equals(due), "the methods are " + methods + ", due are " + due);
        for (Field f : TagDraw.class.getDeclaredFields()) {
            check(Modifier.isPrivate(f.getModifiers()) || f.getName().equals("NONE"), "rule 1: " + f);
        }
        Constructor<?>[] constructors = TagDraw.class.getDeclaredConstructors();
        check(constructors.length == 1 && Modifier.isPublic(constructors[0].getModifiers()), "rule 1: constructors");
        check(Modifier.isFinal(TagDraw.class.getModifiers()), "rule 1: the class is final");
        check(TagDraw.NONE == -1, "NONE is " + TagDraw.NONE);
    }

    private static void classesInside() {
        Set<String> names = Arrays.stream(TagDraw.class.getDeclaredMethods())
            .filter(m -> Modifier.isPublic(m.getModifiers())).map(Method::getName).collect(Collectors.toSet());
        Class<?>[] inside = TagDraw.class.getDeclaredClasses();
        check(inside.length < 12, "rule 11: " + inside.length + " classes inside");
        for (Method m : TagDraw.class.getDeclaredMethods()) {
            check(Modifier.isPublic(m.getModifiers()) || !names.contains(m.getName()), "rule 1: " + m);
        }
        for (Class<?> c : inside) {
            check(Modifier.isStatic(c.getModifiers()) && !Modifier.isPublic(c.getModifiers()), "rule 2: " + c);
            for (Method m : c.getDeclaredMethods()) {
                check(!names.contains(m.getName()), "rule 1: " + m + " bears the name of a public one");
            }
        }
        for (Class<?> c : classes()) {
            long fields = Arrays.stream(c.getDeclaredFields())
                .filter(f -> !Modifier.isStatic(f.getModifiers())).count();
            check(fields <= 20, "rule 11: " + c + " has " + fields + " fields");
            for (Field f : c.getDeclaredFields()) {
                check(!Modifier.isStatic(f.getModifiers()) || Modifier.isFinal(f.getModifiers()), "rule 5: " + f);
            }
            for (Method m : c.getDeclaredMethods()) {
                check(m.getParameterCount() <= 7, "rule 11: " + m + " takes more than seven parameters");
            }
        }
    }

    private static List<Class<?>> classes() {
        List<Class<?>> all = new java.util.ArrayList<>(Arrays.asList(TagDraw.class.getDeclaredClasses()));
        all.add(TagDraw.class);
        return all;
    }

    private static void text() throws IOException {
        int line = 0;
        for (String row : Files.readAllLines(Path.of("src/main/java/TagDraw.java"))) {
            line++;
            String code = row.replaceAll("^\\s*(/\\*\\*|\\*|//).*", "").replaceAll("//.*", "");
            for (String word : RULED_OUT) {
                check(!code.contains(word), "line " + line + " has " + word + ": " + row.strip());
            }
            check(row.chars().allMatch(c -> c < 128), "line " + line + " has a sign above 127");
        }
    }
}
