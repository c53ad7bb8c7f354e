import java.lang.reflect.Constructor;
import java.lang.reflect.Field;
import java.lang.reflect.Method;
import java.lang.reflect.Modifier;
import java.nio.file.Files;
import java.nio.file.Path;
import java.util.Set;
import java.util.TreeSet;

/** The public face, member by member, and what a look at the source can tell of ../shared/LANGUAGE.md. */
public final class FaceTest {
    private static final String[] METHODS = {
        "person(int,int)", "shoe(int,int,int,int)", "told(int,int)", "stamp(int,boolean)", "give(int,int)", "of(int,int)",
        "tax(int,int)", "road(int,int,int)", "type(long,int)", "taxes()", "roads()", "count(int)",
        "minutes(int,int,int,int)", "cheapest(int,int,int,int,int,int)", "go(int,int,int,int,int)",
        "path(int,int,int)", "unseen(int,int,int)", "paths(int,int)", "buyer(int,int)", "market(int,int,int)", "fair()",
        "brothers(int,int)", "image()", "restore()",
        "prints(int,int,int,int,int,int)", "odds(int,int,int,int,int,int)", "book(int,int,int,int)",
        "sheet(int,int,int)", "drop(int)", "item(int,int,int,int)", "copy(int,int,int,int,int)"};

    private static final String[] RULED_OUT = {
        "->", "::", "try ", "catch", "throw", "finally", "synchronized", "assert", "Exact(", "instanceof", "System.out",
        "currentTime", "nanoTime", "Random", "Thread", "protected", "@"};

    public static void main(String[] args) throws Exception {
        Due due = new Due();
        Class<?> face = LeftShoes.class;

        due.of("the class");
        due.is("modifiers", face.getModifiers(), Modifier.PUBLIC | Modifier.FINAL);
        due.holds("it has no package", face.getPackageName().isEmpty());

        due.of("constants");
        String[] names = {"BAD", "NOT", "FULL", "NONE", "NULL", "CAST", "INDEX", "SIZE"};
        int[] values = {-1, -2, -3, -4, -11, -12, -13, -14};
        for (int k = 0; k < names.length; k++) {
            Field field = face.getField(names[k]);
            due.is(names[k], field.getInt(null), values[k]);
            due.is(names[k] + " modifiers", field.getModifiers(), Modifier.PUBLIC | Modifier.STATIC | Modifier.FINAL);
        }
        due.is("constants in all", face.getFields().length, names.length);

        due.of("methods");
        Set<String> told = new TreeSet<>(Set.of(METHODS));
        Set<String> found = new TreeSet<>();
        Set<String> publicNames = new TreeSet<>();
        for (Method method : face.getDeclaredMethods()) {
            if (Modifier.isPublic(method.getModifiers())) {
                found.add(signature(method));
                publicNames.add(method.getName());
                due.holds(method + " answers int", method.getReturnType() == int.class);
                due.holds(method + " is of an object", !Modifier.isStatic(method.getModifiers()));
            }
        }
        due.holds("told " + told + " found " + found, told.equals(found));

        due.of("nothing else to be seen from outside");
        for (Method method : face.getDeclaredMethods()) {
            int m = method.getModifiers();
            due.holds(method + " is public or private", Modifier.isPublic(m) || Modifier.isPrivate(m));
        }
        for (Field field : face.getDeclaredFields()) {
            int m = field.getModifiers();
            due.holds(field + " is public or private", Modifier.isPublic(m) || Modifier.isPrivate(m));
        }
        due.is("constructors", face.getDeclaredConstructors().length, 1);
        for (Constructor<?> constructor : face.getDeclaredConstructors()) {
            due.is("constructor modifiers", constructor.getModifiers(), Modifier.PUBLIC);
            due.is("constructor parameters", constructor.getParameterCount(), 0);
        }

        due.of("classes inside");
        due.holds("some twelve at most", face.getDeclaredClasses().length <= 12);
        for (Class<?> inside : face.getDeclaredClasses()) {
            due.holds(inside + " is static and not public",
                    Modifier.isStatic(inside.getModifiers()) && !Modifier.isPublic(inside.getModifiers()));
            for (Method method : inside.getDeclaredMethods()) {
                due.holds(method + " bears no name of the face", !publicNames.contains(method.getName()));
                due.holds(method + " has 7 parameters at most", method.getParameterCount() <= 7);
            }
        }

        due.of("the source");
        String source = Files.readString(Path.of("src/main/java/LeftShoes.java"));
        String code = source.replaceAll("(?s)/\\*.*?\\*/", "").replaceAll("//[^\n]*", "");
        for (String word : RULED_OUT) {
            due.holds("without " + word, !code.contains(word));
        }
        due.is("imports", code.split("\nimport |^import ", -1).length - 1, 1);
        due.holds("imports Arrays", code.contains("import java.util.Arrays;"));
        due.holds("signs 10 to 126 alone", source.chars().allMatch(c -> c == 10 || c >= 32 && c <= 126));
        due.end();
    }

    private static String signature(Method method) {
        StringBuilder text = new StringBuilder(method.getName()).append('(');
        Class<?>[] types = method.getParameterTypes();
        for (int k = 0; k < types.length; k++) {
            text.append(k == 0 ? "" : ",").append(types[k].getName());
        }
        return text.append(')').toString();
    }
}
