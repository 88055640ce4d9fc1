import java.lang.reflect.Constructor;
import java.lang.reflect.Field;
import java.lang.reflect.Method;
import java.lang.reflect.Modifier;
import java.util.TreeSet;

/** The public face of the document, and rule 1 of the language: nothing else can be seen. */
public final class FaceTest {
    public static void main(String[] args) {
        Probe.due("modifiers", TreeShell.class.getModifiers(), Modifier.PUBLIC | Modifier.FINAL);
        Probe.due("SYNTAX", TreeShell.SYNTAX, -1);
        Probe.due("SPACE", TreeShell.SPACE, 100);
        TreeSet<String> seen = new TreeSet<>();
        TreeSet<String> hidden = new TreeSet<>();
        for (Field field : TreeShell.class.getDeclaredFields()) {
            if (!Modifier.isPrivate(field.getModifiers())) {
                seen.add(field.toString());
            }
        }
        for (Constructor<?> constructor : TreeShell.class.getDeclaredConstructors()) {
            seen.add(constructor.toString());
        }
        for (Method method : TreeShell.class.getDeclaredMethods()) {
            (Modifier.isPrivate(method.getModifiers()) ? hidden : seen).add(method.toString());
        }
        Probe.due("face", String.join("\n", seen), String.join("\n",
            "public TreeShell(int,int,int)",
            "public boolean TreeShell.type(long)",
            "public int TreeShell.chars()",
            "public int TreeShell.check()",
            "public int TreeShell.depth()",
            "public int TreeShell.enter()",
            "public int TreeShell.length()",
            "public int TreeShell.nodes()",
            "public int TreeShell.ran()",
            "public int TreeShell.status()",
            "public int TreeShell.typed()",
            "public long TreeShell.out(int)",
            "public static final int TreeShell.SPACE",
            "public static final int TreeShell.SYNTAX",
            "public void TreeShell.wipe()"));
        for (Class<?> inside : TreeShell.class.getDeclaredClasses()) {
            Probe.due(inside + " is static", Modifier.isStatic(inside.getModifiers()), true);
            Probe.due(inside + " is private", Modifier.isPrivate(inside.getModifiers()), true);
        }
        Probe.finish("FaceTest");
    }
}
