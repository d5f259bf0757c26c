import java.lang.reflect.Constructor;
import java.lang.reflect.Field;
import java.lang.reflect.Method;
import java.lang.reflect.Modifier;
import java.util.TreeSet;

/** The public face is the document's, and no more. */
public final class FaceTest {
    private static final Check CHECK = new Check("FaceTest");

    public static void main(String[] args) {
        CHECK.same("NONE", ReactionDesk.NONE, -1);
        int modifiers = ReactionDesk.class.getModifiers();
        CHECK.same("public", Modifier.isPublic(modifiers), true);
        CHECK.same("final", Modifier.isFinal(modifiers), true);
        TreeSet<String> visible = new TreeSet<>();
        for (Method method : ReactionDesk.class.getDeclaredMethods()) {
            if (!Modifier.isPrivate(method.getModifiers())) {
                visible.add(method.toGenericString());
            }
        }
        for (Field field : ReactionDesk.class.getDeclaredFields()) {
            if (!Modifier.isPrivate(field.getModifiers())) {
                visible.add(field.toGenericString());
            }
        }
        for (Constructor<?> constructor : ReactionDesk.class.getDeclaredConstructors()) {
            if (!Modifier.isPrivate(constructor.getModifiers())) {
                visible.add(constructor.toGenericString());
            }
        }
        TreeSet<String> due = new TreeSet<>();
        String state = "java.lang.IllegalStateException";
        String argument = "java.lang.IllegalArgumentException";
        String index = "java.lang.IndexOutOfBoundsException";
        due.add("public static final int ReactionDesk.NONE");
        due.add("public ReactionDesk()");
        due.add("public int ReactionDesk.put(int,int) throws " + state + "," + argument);
        due.add("public int ReactionDesk.start() throws " + state);
        due.add("public int ReactionDesk.clear()");
        due.add("public int ReactionDesk.instant(int) throws " + state + "," + argument);
        due.add("public int ReactionDesk.status(int) throws " + index);
        due.add("public boolean ReactionDesk.selected(int) throws " + index);
        due.add("public int ReactionDesk.reacts() throws " + state);
        due.add("public int ReactionDesk.emits(int) throws " + state + "," + index);
        due.add("public int ReactionDesk.count(int)");
        for (String member : due) {
            CHECK.same(member, visible.contains(member), true);
        }
        visible.removeAll(due);
        CHECK.same("members beyond the face " + visible, visible.size(), 0);
        CHECK.end();
    }
}
