import java.lang.reflect.Constructor;
import java.lang.reflect.Field;
import java.lang.reflect.Method;
import java.lang.reflect.Modifier;
import java.util.Set;
import java.util.TreeSet;

/** The public face stands as the document writes it, and nothing else can be seen from outside. */
public final class FaceTest {
    private static final String IAE = " IllegalArgumentException";
    private static final String ISE = " IllegalStateException";
    private static final String IOOBE = " IndexOutOfBoundsException";

    private static final String[] FACE = {
        "append(int)" + IAE + ISE, "clearText()", "errorPosition()", "load()" + ISE,
        "about(int)" + IAE, "take(int,int)" + IOOBE + IAE, "line(int,int)" + IOOBE + IAE, "setting(int)" + IAE,
        "call(int,int)" + IAE, "board(int,int,int)" + IAE, "right()", "shoot(int,boolean)" + IAE + ISE,
        "newCamera()", "newSound()", "circle(int,boolean)" + IOOBE, "falseStart(int,boolean)" + IOOBE,
        "fix(int)" + IOOBE, "off(int)" + IAE, "set(int,int)" + IAE, "undo()" + ISE,
        "find(int,int,int,boolean)", "atCamera(int,int)", "atSound(int,int)", "atTime(int)", "byFile(int,int)",
        "synced(int)" + IOOBE, "bestShift()", "rolls(int,int)" + IAE, "ifFalse(int)" + IOOBE, "scene(int,int)" + IAE,
        "runScript(int,long)" + IAE, "simulate(long,int)" + IAE, "save(int)" + IOOBE, "restore(int)" + IOOBE + ISE,
    };

    public static void main(String[] args) throws Exception {
        Check.due("public and final", TakeLog.class.getModifiers(), Modifier.PUBLIC | Modifier.FINAL);
        Check.due("the methods", methods().toString(), new TreeSet<>(Set.of(FACE)).toString());
        int seen = 0;
        for (Field f : TakeLog.class.getDeclaredFields()) {
            seen += Modifier.isPrivate(f.getModifiers()) ? 0 : 1;
        }
        Check.due("fields that are not private", seen, 1);
        Field none = TakeLog.class.getField("NONE");
        Check.due("NONE", none.getModifiers(), Modifier.PUBLIC | Modifier.STATIC | Modifier.FINAL);
        Check.due("NONE", none.getInt(null), -1);
        Constructor<?>[] all = TakeLog.class.getDeclaredConstructors();
        Check.due("constructors", all.length, 1);
        Check.due("constructor", all[0].getModifiers(), Modifier.PUBLIC);
        Check.due("constructor", all[0].getParameterCount() + all[0].getExceptionTypes().length, 0);
        Check.end("FaceTest");
    }

    private static Set<String> methods() {
        Set<String> found = new TreeSet<>();
        for (Method m : TakeLog.class.getDeclaredMethods()) {
            if (!Modifier.isPrivate(m.getModifiers()) && !m.isSynthetic()) {
                StringBuilder face = new StringBuilder(m.getName()).append('(');
                for (Class<?> type : m.getParameterTypes()) {
                    face.append(face.charAt(face.length() - 1) == '(' ? "" : ",").append(type.getName());
                }
                face.append(')');
                for (Class<?> type : m.getExceptionTypes()) {
                    face.append(' ').append(type.getSimpleName());
                }
                boolean plain = m.getModifiers() == Modifier.PUBLIC && m.getReturnType() == int.class;
                found.add(plain ? face.toString() : "not a public int: " + face);
            }
        }
        return found;
    }
}
