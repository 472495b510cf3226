import java.lang.reflect.Constructor;
import java.lang.reflect.Field;
import java.lang.reflect.Method;
import java.lang.reflect.Modifier;
import java.util.TreeSet;

/** The public face is the document's, and nothing else of the class can be seen. */
public final class FaceTest {
    private static final String[] METHODS = {
        "int roll(int,int,int,int)", "int rooms()", "int cover(int,int,int)", "int takeUp(int)",
        "int sell(int)", "int clear(int,int)", "int set(int,int)", "int type(char)",
        "int clearText()", "int fault()", "int undo()", "int keep()", "int restore()",
        "int rollOf(int,int)", "int offcut(int,int)", "int sorted(int)", "int room(int,int)",
        "int strip(int,int,int)", "int count(int)", "double wasted(int)",
        "int ifCovered(int,int,int,int)", "int best(int,int,int)", "int suits(int)",
        "int coverAll(int,int)"};
    private static final String[] CONSTANTS = {"BAD_VALUE=-2", "FULL=-3", "NONE=-5", "UNKNOWN=-1"};

    public static void main(String[] args) throws Exception {
        TreeSet<String> want = new TreeSet<>();
        for (String method : METHODS) {
            want.add(method);
        }
        for (String constant : CONSTANTS) {
            want.add(constant);
        }
        want.add("CarpetCounter()");
        TreeSet<String> found = new TreeSet<>();
        for (Method m : CarpetCounter.class.getDeclaredMethods()) {
            if (!Modifier.isPrivate(m.getModifiers())) {
                found.add(m.getReturnType() + " " + m.getName() + types(m.getParameterTypes()));
            }
        }
        for (Field f : CarpetCounter.class.getDeclaredFields()) {
            if (!Modifier.isPrivate(f.getModifiers())) {
                found.add(f.getName() + "=" + f.getInt(null));
            }
        }
        for (Constructor<?> c : CarpetCounter.class.getDeclaredConstructors()) {
            if (!Modifier.isPrivate(c.getModifiers())) {
                found.add("CarpetCounter" + types(c.getParameterTypes()));
            }
        }
        if (!want.equals(found)) {
            System.out.println("the face is " + found + ", due is " + want);
            System.exit(1);
        }
        System.out.println("the face is as due");
    }

    private static String types(Class<?>[] types) {
        StringBuilder text = new StringBuilder("(");
        for (Class<?> type : types) {
            text.append(text.length() > 1 ? "," : "").append(type);
        }
        return text.append(')').toString();
    }
}
