import java.lang.reflect.Constructor;
import java.lang.reflect.Field;
import java.lang.reflect.Method;
import java.lang.reflect.Modifier;
import java.nio.file.Files;
import java.nio.file.Path;
import java.util.Arrays;
import java.util.Set;
import java.util.TreeSet;
import java.util.stream.Collectors;

/** The document's face and those rules of LANGUAGE.md that can be seen from outside the code. */
public final class FaceTest {
    private static final Check CHECK = new Check();
    private static final Set<String> FACE = new TreeSet<>(Set.of("feed(int,long)", "draw()", "place()",
        "cell(int,int)", "lot(int,int)", "vacate(int)", "halt(int,int)", "person(int)", "money(int,int)",
        "bid(int,int,int)", "close(int)", "pass(int,int)", "give(int,int,int)", "rate(int)", "days(int)",
        "title(int,int)", "told(int,int)", "count(int)", "bond(int,int)"));
    private static final Set<String> CONSTANTS = new TreeSet<>(Set.of("NONE", "UNKNOWN", "OUTSIDE", "NOT", "FULL"));

    public static void main(String[] args) throws Exception {
        face();
        constants();
        classesInside();
        words();
        CHECK.end();
    }

    private static void yes(String what, boolean holds) {
        CHECK.due(what, holds ? 1 : 0, 1);
    }

    private static void face() {
        int mods = PaperTown.class.getModifiers();
        yes("public and final", Modifier.isPublic(mods) && Modifier.isFinal(mods));
        Set<String> seen = new TreeSet<>();
        for (Method m : PaperTown.class.getDeclaredMethods()) {
            if (Modifier.isPrivate(m.getModifiers())) {
                continue;
            }
            yes(m.getName() + " is public", Modifier.isPublic(m.getModifiers()));
            yes(m.getName() + " answers an int", m.getReturnType() == int.class);
            seen.add(m.getName() + "(" + Arrays.stream(m.getParameterTypes()).map(Class::getName)
                .collect(Collectors.joining(",")) + ")");
        }
        yes("methods " + seen, seen.equals(FACE));
        Constructor<?>[] makers = PaperTown.class.getDeclaredConstructors();
        yes("one constructor", makers.length == 1 && makers[0].getParameterCount() == 0
            && Modifier.isPublic(makers[0].getModifiers()));
    }

    private static void constants() {
        Set<String> seen = new TreeSet<>();
        for (Field f : PaperTown.class.getDeclaredFields()) {
            if (!Modifier.isPrivate(f.getModifiers())) {
                seen.add(f.getName());
                yes(f.getName() + " is a constant", Modifier.isPublic(f.getModifiers())
                    && Modifier.isStatic(f.getModifiers()) && Modifier.isFinal(f.getModifiers())
                    && f.getType() == int.class);
            }
        }
        yes("constants " + seen, seen.equals(CONSTANTS));
        CHECK.due("NONE", PaperTown.NONE, -1);
        CHECK.due("UNKNOWN", PaperTown.UNKNOWN, -1001);
        CHECK.due("OUTSIDE", PaperTown.OUTSIDE, -1002);
        CHECK.due("NOT", PaperTown.NOT, -1003);
        CHECK.due("FULL", PaperTown.FULL, -1004);
    }

    private static void classesInside() {
        Class<?>[] inside = PaperTown.class.getDeclaredClasses();
        yes("at most twelve classes", inside.length < 12);
        Set<String> names = FACE.stream().map(call -> call.substring(0, call.indexOf('(')))
            .collect(Collectors.toSet());
        for (Class<?> c : inside) {
            yes(c.getName() + " is static", Modifier.isStatic(c.getModifiers()));
            yes(c.getName() + " is not public", !Modifier.isPublic(c.getModifiers())
                && !Modifier.isProtected(c.getModifiers()));
            long fields = Arrays.stream(c.getDeclaredFields()).filter(f -> !Modifier.isStatic(f.getModifiers()))
                .count();
            yes(c.getName() + " has some twenty fields", fields <= 20);
            for (Field f : c.getDeclaredFields()) {
                yes(f + " is no static state", !Modifier.isStatic(f.getModifiers())
                    || Modifier.isFinal(f.getModifiers()));
            }
            for (Method m : c.getDeclaredMethods()) {
                yes(m + " has a name of its own", !names.contains(m.getName()));
                yes(m + " takes seven at most", m.getParameterCount() <= 7);
            }
        }
    }

    private static void words() throws Exception {
        String code = Files.readString(Path.of("src/main/java/PaperTown.java"))
            .replaceAll("(?s)/\\*.*?\\*/", "").replaceAll("//[^\n]*", "");
        for (String word : new String[] {"throw", "try", "catch", "finally", "synchronized", "assert", "package",
            "Exact", "System", "Object", "equals", "hashCode", "toString"}) {
            yes("no '" + word + "'", !code.matches("(?s).*\\b\\w*" + word + "\\b.*"));
        }
        yes("no lambda", !code.contains("->"));
        yes("no method reference", !code.contains("::"));
        Set<String> imports = code.lines().filter(line -> line.startsWith("import"))
            .collect(Collectors.toCollection(TreeSet::new));
        yes("imports " + imports, Set.of("import java.util.ArrayList;", "import java.util.Arrays;").equals(imports));
    }
}
