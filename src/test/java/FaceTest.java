import java.lang.reflect.Constructor;
import java.lang.reflect.Field;
import java.lang.reflect.Method;
import java.lang.reflect.Modifier;
import java.util.ArrayList;
import java.util.List;
import java.util.TreeSet;

/** The class shows the document's face and nothing else; what each call may throw is declared. */
public final class FaceTest {
    private static final String NONE_SUCH = "NoSuchElementException";
    private static final String BAD = "IllegalArgumentException";

    public static void main(String[] args) throws Exception {
        int modifiers = TwoForOne.class.getModifiers();
        Check.due("public and final", Modifier.isPublic(modifiers) && Modifier.isFinal(modifiers), true);
        Check.due("NONE", TwoForOne.NONE, -1);
        constructors();
        fields(TwoForOne.class);
        methods();
        Check.end();
    }

    private static void constructors() {
        Constructor<?>[] all = TwoForOne.class.getDeclaredConstructors();
        Check.due("constructors", all.length, 1);
        Check.due("its parameters", all[0].getParameterCount(), 0);
        Check.due("public", Modifier.isPublic(all[0].getModifiers()), true);
    }

    /** Only NONE is to be seen; static fields are final, and of kinds that never change. */
    private static void fields(Class<?> kind) {
        int count = 0;
        for (Field field : kind.getDeclaredFields()) {
            int modifiers = field.getModifiers();
            if (field.isSynthetic()) {
                continue;
            }
            boolean shown = kind == TwoForOne.class && !Modifier.isPrivate(modifiers);
            Check.due("shown: " + field, shown, shown && field.getName().equals("NONE"));
            if (Modifier.isStatic(modifiers)) {
                boolean plain = CONSTANTS.contains(field.getType()) || field.isEnumConstant() || isRowOfEnums(field.getType());
                Check.due("a constant: " + field, plain && Modifier.isFinal(modifiers), true);
            } else {
                count++;
            }
        }
        Check.due("some twenty fields of " + kind, count <= 22, true);
        for (Class<?> inner : kind.getDeclaredClasses()) {
            int modifiers = inner.getModifiers();
            Check.due("hidden: " + inner, Modifier.isPublic(modifiers) || Modifier.isProtected(modifiers), false);
            fields(inner);
        }
    }

    private static final List<Class<?>> CONSTANTS = List.of(int.class, long.class, boolean.class, char.class, String.class,
            int[].class, long[].class, char[].class, byte[].class);

    private static boolean isRowOfEnums(Class<?> kind) {
        return kind.isArray() && kind.getComponentType().isEnum();
    }

    private static void methods() {
        List<String> due = List.of("int feed 5", "int town 1 " + BAD, "int fault 0", "int count 1 " + NONE_SUCH,
                "int has 2 " + NONE_SUCH, "int likes 2 " + NONE_SUCH, "int worth 1 " + NONE_SUCH, "int left 1 " + NONE_SUCH,
                "int meeting 2 " + NONE_SUCH, "int look 5 " + NONE_SUCH + " " + BAD, "boolean trade 4 " + NONE_SUCH,
                "boolean tie 2 " + NONE_SUCH, "int come 2 " + NONE_SUCH, "int step 2 " + NONE_SUCH, "int poor 2 " + NONE_SUCH,
                "int bag 1 " + NONE_SUCH, "int most 0", "int freely 0", "int meet 2 " + NONE_SUCH, "int days 1 " + BAD,
                "int end 1 " + NONE_SUCH, "int order 0", "int ordered 1 " + NONE_SUCH, "int ahead 1 " + NONE_SUCH,
                "int still 3 " + NONE_SUCH + " " + BAD, "int share 1 " + NONE_SUCH, "int shared 2 " + NONE_SUCH,
                "int law 2 " + NONE_SUCH, "int best 0", "int run 2 " + BAD, "void image 0", "boolean restore 0");
        List<String> shown = new ArrayList<>();
        TreeSet<String> names = new TreeSet<>();
        for (Method method : TwoForOne.class.getDeclaredMethods()) {
            if (!Modifier.isPrivate(method.getModifiers()) && !method.isSynthetic()) {
                StringBuilder line = new StringBuilder(method.getReturnType().getName());
                line.append(' ').append(method.getName()).append(' ').append(method.getParameterCount());
                for (Class<?> thrown : method.getExceptionTypes()) {
                    line.append(' ').append(thrown.getSimpleName());
                }
                shown.add(line.toString());
                names.add(method.getName());
            }
        }
        Check.due("the face", new TreeSet<>(shown).toString(), new TreeSet<>(due).toString());
        for (Method method : TwoForOne.class.getDeclaredMethods()) {
            if (Modifier.isPrivate(method.getModifiers()) && !method.isSynthetic()) {
                Check.due("a name of the face: " + method, names.contains(method.getName()), false);
                Check.due("at most seven parameters: " + method, method.getParameterCount() <= 7, true);
            }
        }
    }
}
