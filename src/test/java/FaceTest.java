import java.lang.reflect.Constructor;
import java.lang.reflect.Field;
import java.lang.reflect.Method;
import java.lang.reflect.Modifier;
import java.util.Set;
import java.util.TreeSet;

/** The public face: the members that the document names, with their types, and no other that can be seen. */
public final class FaceTest {
    private static final String INT = "public int ", TRUTH = "public boolean ", CONSTANT = "public static final int ";
    private static final Set<String> MEMBERS = Set.of(
            CONSTANT + "BAD = -1", CONSTANT + "DOWN = -2", CONSTANT + "FULL = -3", "public CallDesk()",
            TRUTH + "field(int, int, int, boolean)", INT + "feed(int, int)", INT + "grant(int, int)",
            INT + "answer(int)", TRUTH + "finish(int)", TRUTH + "cancel(int, int)", INT + "state(int)",
            INT + "code(int)", INT + "window(int, boolean)", INT + "header(int, int)", INT + "table(int)",
            INT + "messages(int)", INT + "nodes(int)", INT + "typeOf(int, int)", INT + "many(int, int, int)",
            INT + "value(int, int, int, int)", INT + "byteOf(int, int, int, int, int)", INT + "skipped(int)",
            INT + "size(int)", INT + "out(int)", INT + "drain()");

    public static void main(String[] args) throws IllegalAccessException {
        Set<String> seen = new TreeSet<>();
        for (Field field : CallDesk.class.getDeclaredFields()) {
            if (isSeen(field.getModifiers())) {
                seen.add(start(field.getModifiers(), field.getType()) + field.getName() + " = " + field.getInt(null));
            }
        }
        for (Constructor<?> made : CallDesk.class.getDeclaredConstructors()) {
            if (isSeen(made.getModifiers())) {
                seen.add(Modifier.toString(made.getModifiers()) + " CallDesk" + row(made.getParameterTypes()));
            }
        }
        for (Method method : CallDesk.class.getDeclaredMethods()) {
            if (isSeen(method.getModifiers())) {
                String start = start(method.getModifiers(), method.getReturnType());
                seen.add(start + method.getName() + row(method.getParameterTypes()));
            }
        }
        tell(MEMBERS, seen, " is not there");
        tell(seen, MEMBERS, " is none of the document's");
        Check.same("public final class", CallDesk.class.getModifiers(), Modifier.PUBLIC | Modifier.FINAL);
        Check.end();
    }

    private static boolean isSeen(int modifiers) {
        return !Modifier.isPrivate(modifiers);
    }

    private static String start(int modifiers, Class<?> type) {
        return Modifier.toString(modifiers) + " " + type.getName() + " ";
    }

    private static String row(Class<?>[] types) {
        StringBuilder all = new StringBuilder();
        for (Class<?> type : types) {
            all.append(all.length() == 0 ? "" : ", ").append(type.getName());
        }
        return "(" + all + ")";
    }

    private static void tell(Set<String> some, Set<String> others, String fault) {
        for (String member : some) {
            if (!others.contains(member)) {
                Check.told(member + fault);
            }
        }
    }
}
