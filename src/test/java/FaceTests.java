import java.lang.reflect.Constructor;
import java.lang.reflect.Field;
import java.lang.reflect.Method;
import java.lang.reflect.Modifier;
import java.util.Arrays;
import java.util.Set;
import java.util.TreeSet;

/** The class shows the document's face and no member more (LANGUAGE.md, rule 1). */
public final class FaceTests {
    private static final Set<String> FACE = new TreeSet<>(Arrays.asList(
        "public static final int RangeReckoner.NONE",
        "public RangeReckoner()",
        "public int RangeReckoner.variable(int,int)",
        "public boolean RangeReckoner.give(int,int)",
        "public int RangeReckoner.feed(int,int)",
        "public int RangeReckoner.take()",
        "public int RangeReckoner.part(int,int)",
        "public long RangeReckoner.value(int) throws java.lang.IndexOutOfBoundsException",
        "public long RangeReckoner.width()",
        "public int RangeReckoner.count(int)"));

    public static void main(String[] args) {
        Checks checks = new Checks();
        Set<String> shown = new TreeSet<>();
        Set<String> publicNames = new TreeSet<>();
        for (Field one : RangeReckoner.class.getDeclaredFields()) if (!Modifier.isPrivate(one.getModifiers())) shown.add(one.toString());
        for (Constructor<?> one : RangeReckoner.class.getDeclaredConstructors()) if (!Modifier.isPrivate(one.getModifiers())) shown.add(one.toString());
        for (Method one : RangeReckoner.class.getDeclaredMethods()) {
            if (Modifier.isPrivate(one.getModifiers())) continue;
            shown.add(one.toString());
            publicNames.add(one.getName());
        }
        for (String one : FACE) checks.due("has " + one, shown.contains(one), true);
        for (String one : shown) checks.due("the document has " + one, FACE.contains(one), true);
        checks.due("final", Modifier.isFinal(RangeReckoner.class.getModifiers()), true);
        checks.due("public", Modifier.isPublic(RangeReckoner.class.getModifiers()), true);
        checks.due("no package", RangeReckoner.class.getPackageName().isEmpty(), true);
        for (Method one : RangeReckoner.class.getDeclaredMethods()) {
            boolean hidden = Modifier.isPrivate(one.getModifiers());
            checks.due("a private " + one.getName() + " beside the public one", hidden && publicNames.contains(one.getName()), false);
        }
        for (Class<?> inside : RangeReckoner.class.getDeclaredClasses()) {
            int how = inside.getModifiers();
            checks.due(inside + " is static", Modifier.isStatic(how), true);
            checks.due(inside + " is shown", Modifier.isPublic(how) || Modifier.isProtected(how), false);
        }
        checks.end();
    }
}
