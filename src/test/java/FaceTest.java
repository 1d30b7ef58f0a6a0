import java.lang.reflect.Constructor;
import java.lang.reflect.Field;
import java.lang.reflect.Method;
import java.lang.reflect.Modifier;
import java.util.ArrayList;
import java.util.Arrays;
import java.util.Collections;
import java.util.List;

/** The public face: its constants, constructor and methods, with what they throw, and nothing else. */
public final class FaceTest {
    private static final String OUT = "IndexOutOfBoundsException", ARG = "IllegalArgumentException",
            STATE = "IllegalStateException";
    private static final String[] METHODS = {
        "void grid(int,int) " + ARG,
        "int costs(int,int) " + ARG,
        "int turn(int,int,int) " + OUT + " " + ARG + " " + STATE,
        "int anchor(int,int,int,int,int) " + OUT + " " + ARG,
        "int pixel(int,int,int,int) " + OUT + " " + ARG + " " + STATE,
        "int drive(int,int,int) " + OUT + " " + ARG,
        "int program(int,int,int,int) " + OUT + " " + ARG + " " + STATE,
        "int tick(int) " + ARG + " " + STATE,
        "int plates(int) " + ARG,
        "int picture() " + STATE,
        "int now()",
        "int told(int,int,int) " + OUT + " " + ARG,
        "int energy()",
        "int energyAnew()",
        "int spent(boolean)",
        "int least(int,int,boolean) " + OUT,
        "int winding(int,int) " + OUT,
        "int within(int,int,int,int) " + OUT + " " + ARG,
        "int border(int,int,int,int) " + OUT + " " + ARG,
        "int defects()",
        "int defect(int,int) " + OUT + " " + ARG,
        "int ofPixel(int,int) " + OUT + " " + ARG,
        "int pictured(int,int,int) " + OUT,
        "int ghosts(int) " + OUT,
        "int guesses(int,int,int) " + OUT,
    };

    private static String named(Class<?>[] types, String between) {
        StringBuilder text = new StringBuilder();
        for (Class<?> type : types) {
            text.append(text.length() == 0 ? "" : between).append(type.getSimpleName());
        }
        return text.toString();
    }

    private static String told(Method method) {
        String thrown = named(method.getExceptionTypes(), " ");
        return method.getReturnType().getSimpleName() + " " + method.getName()
                + "(" + named(method.getParameterTypes(), ",") + ")" + (thrown.isEmpty() ? "" : " " + thrown);
    }

    private static boolean isShown(int modifiers) {
        return !Modifier.isPrivate(modifiers);
    }

    private static String lines(List<String> texts) {
        Collections.sort(texts);
        return String.join("\n", texts) + "\n";
    }

    public static void main(String[] args) {
        Check check = new Check("FaceTest");
        check.due("NONE", NemaGrid.NONE, -1);
        check.due("FREE", NemaGrid.FREE, 0);
        check.due("FIXED", NemaGrid.FIXED, 1);
        check.due("WEAK", NemaGrid.WEAK, 2);
        int modifiers = NemaGrid.class.getModifiers();
        check.due("public final", Modifier.isPublic(modifiers) && Modifier.isFinal(modifiers) ? 1 : 0, 1);

        List<String> methods = new ArrayList<>();
        List<String> hidden = new ArrayList<>();
        for (Method method : NemaGrid.class.getDeclaredMethods()) {
            if (method.isSynthetic()) {
                continue;
            }
            if (isShown(method.getModifiers())) {
                methods.add(told(method));
                check.due(method + " is public", Modifier.isPublic(method.getModifiers()) ? 1 : 0, 1);
            } else {
                hidden.add(method.getName());
            }
        }
        check.due("the methods", lines(methods), lines(new ArrayList<>(Arrays.asList(METHODS))));
        for (Method method : NemaGrid.class.getMethods()) {
            check.due("a private " + method.getName(), hidden.contains(method.getName()) ? 1 : 0, 0);
        }

        List<String> fields = new ArrayList<>();
        for (Field field : NemaGrid.class.getDeclaredFields()) {
            if (!field.isSynthetic() && isShown(field.getModifiers())) {
                fields.add(Modifier.toString(field.getModifiers()) + " " + field.getType() + " " + field.getName());
            }
        }
        check.due("the fields", lines(fields), "public static final int FIXED\npublic static final int FREE\n"
                + "public static final int NONE\npublic static final int WEAK\n");

        Constructor<?>[] constructors = NemaGrid.class.getDeclaredConstructors();
        check.due("constructors", constructors.length, 1);
        check.due("the constructor", constructors[0].toString(), "public NemaGrid()");
        check.end();
    }
}
