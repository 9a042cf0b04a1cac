import java.lang.reflect.Member;
import java.lang.reflect.Method;
import java.lang.reflect.Modifier;
import java.util.Arrays;

/** The face of the class: its constants, its constructor and its methods, and nothing else that is not private. */
public final class FaceTest {
    private static final String[] METHODS = {
        "int place(int,int,int)", "int of(int,int)", "int set(int,int)", "int now(int)", "int feed(int)",
        "int law()", "int told(int)", "int drive(int)", "int would(int)", "int go(int)", "int row(int)",
        "int hand(int,int)", "int soonest(int,int)", "int gentlest(int,int)", "int why()", "int waits()",
        "int round()", "int shiftLoad()", "int wander(int)", "long sure(int,int)", "int days(int,int)",
        "int beast(int)", "int string(int)", "int film(int)", "int off()", "int judge(int,int)", "int image()",
        "int undo()", "int part(int,int,int)", "int trace(int)", "int taken(int,int)", "int count(int)",
        "int tape(int,int,int)", "int item(int,int,long)", "long read(int,int)", "int shift(int,int,int,int,int)"
    };

    private static int open(Member[] members) {
        int open = 0;
        for (Member m : members) {
            if (!Modifier.isPrivate(m.getModifiers()) && !m.isSynthetic()) {
                open++;
            }
        }
        return open;
    }

    private static String told(Method m) {
        StringBuilder all = new StringBuilder(m.getReturnType().getName() + " " + m.getName() + "(");
        Class<?>[] types = m.getParameterTypes();
        for (int i = 0; i < types.length; i++) {
            all.append(i == 0 ? "" : ",").append(types[i].getName());
        }
        return all.append(")").toString();
    }

    public static void main(String[] args) {
        Check c = new Check("FaceTest");
        Class<?> k = DonkeyBridge.class;
        c.due("final", Modifier.isFinal(k.getModifiers()) ? 1 : 0, 1);
        c.due("NONE", DonkeyBridge.NONE, -1);
        c.due("BAD", DonkeyBridge.BAD, -2);
        c.due("STATE", DonkeyBridge.STATE, -3);
        c.due("FULL", DonkeyBridge.FULL, -4);
        c.due("NO", DonkeyBridge.NO, Long.MIN_VALUE);
        c.due("open constants", open(k.getDeclaredFields()), 5);
        c.due("open constructors", open(k.getDeclaredConstructors()), 1);
        c.due("open methods", open(k.getDeclaredMethods()), METHODS.length);
        for (Method m : k.getDeclaredMethods()) {
            if (Modifier.isPublic(m.getModifiers())) {
                c.due(told(m), Arrays.asList(METHODS).contains(told(m)) ? 1 : 0, 1);
            }
        }
        c.end();
    }
}
