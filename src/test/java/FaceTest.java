import java.lang.reflect.Constructor;
import java.lang.reflect.Executable;
import java.lang.reflect.Field;
import java.lang.reflect.Method;
import java.lang.reflect.Modifier;
import java.util.Set;
import java.util.TreeSet;

/** The document's public face: just these members can be seen from outside. */
public final class FaceTest {
    private static final String[] FACE = {
        "public ChoiceParser()",
        "public boolean ChoiceParser.drop(int) throws java.util.NoSuchElementException",
        "public boolean ChoiceParser.type(char)",
        "public float ChoiceParser.full()",
        "public int ChoiceParser.check()",
        "public int ChoiceParser.clear()",
        "public int ChoiceParser.count(int) throws java.lang.IndexOutOfBoundsException",
        "public int ChoiceParser.feed(char) throws java.lang.IllegalArgumentException,java.lang.IllegalStateException",
        "public int ChoiceParser.match(int,int) throws java.util.NoSuchElementException,"
            + "java.lang.IllegalArgumentException,java.lang.IllegalStateException",
        "public int ChoiceParser.memory(int,int) throws java.lang.IndexOutOfBoundsException",
        "public int ChoiceParser.node(int,int) throws java.lang.IndexOutOfBoundsException",
        "public int ChoiceParser.outcomes(int) throws java.util.NoSuchElementException,java.lang.IllegalStateException",
        "public int ChoiceParser.rule()",
        "public static final int ChoiceParser.NONE",
    };

    public static void main(String[] args) {
        Due due = new Due();
        Set<String> seen = new TreeSet<>();
        Set<String> open = new TreeSet<>();
        Set<String> hidden = new TreeSet<>();
        for (Constructor<?> c : ChoiceParser.class.getDeclaredConstructors()) {
            add(c, c.toString(), seen);
        }
        for (Method m : ChoiceParser.class.getDeclaredMethods()) {
            add(m, m.toString(), seen);
            (Modifier.isPublic(m.getModifiers()) ? open : hidden).add(m.getName());
        }
        for (Field f : ChoiceParser.class.getDeclaredFields()) {
            if (!Modifier.isPrivate(f.getModifiers())) {
                seen.add(f.toString());
            }
        }
        due.is("the face", String.join("\n", seen), String.join("\n", new TreeSet<>(Set.of(FACE))));
        due.is("the class is public and final", ChoiceParser.class.getModifiers(), Modifier.PUBLIC | Modifier.FINAL);
        due.is("NONE", ChoiceParser.NONE, -1);
        hidden.retainAll(open);
        due.is("private methods with a public one's name", hidden.toString(), "[]");
        classesInside(due);
        due.end();
    }

    /** LANGUAGE.md, rule 1: they are private or package-visible, and static. */
    private static void classesInside(Due due) {
        for (Class<?> inside : ChoiceParser.class.getDeclaredClasses()) {
            int modifiers = inside.getModifiers();
            boolean hidden = !Modifier.isPublic(modifiers) && !Modifier.isProtected(modifiers);
            due.is(inside + " is hidden and static", hidden && Modifier.isStatic(modifiers), true);
        }
    }

    private static void add(Executable e, String told, Set<String> seen) {
        if (!Modifier.isPrivate(e.getModifiers()) && !e.isSynthetic()) {
            seen.add(told);
        }
    }
}
