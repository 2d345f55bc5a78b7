import java.lang.reflect.Constructor;
import java.lang.reflect.Field;
import java.lang.reflect.Method;
import java.lang.reflect.Modifier;
import java.util.Arrays;
import java.util.Set;
import java.util.TreeSet;

/** The public face: what the document names, and nothing else that could be seen. */
public final class FaceTest {
    private static final String[] FACE = {
        "int feed(int,int,int,int,int)", "boolean end(int)", "int text()", "int fault()", "int now(int)",
        "int compartment(int,int)", "int drop(int,int)", "boolean may(int,int)", "int would(int,int,int)",
        "int orders()", "int ordered(int)", "int without(int)", "int plan(int)", "int washes()",
        "int asks(int,int)", "boolean cancel(int)", "int put(int,int)", "int load()", "int unload(int,int)",
        "int empty(int)", "boolean wash(int)", "int undo()"};

    public static void main(String[] args) {
        Class<?> type = TankerDesk.class;
        Check.due("the class is public and final", type.getModifiers(), Modifier.PUBLIC | Modifier.FINAL);
        Check.due("NONE", TankerDesk.NONE, -1);
        Set<String> seen = new TreeSet<>();
        Set<String> names = new TreeSet<>();
        for (Method method : type.getDeclaredMethods()) {
            if (!Modifier.isPrivate(method.getModifiers()) && !method.isSynthetic()) {
                seen.add(told(method));
                names.add(method.getName());
                Check.due(method + " is public alone", method.getModifiers(), Modifier.PUBLIC);
            }
        }
        Check.due("the methods are the document's: " + seen, seen.equals(new TreeSet<>(Arrays.asList(FACE))), true);
        for (Constructor<?> maker : type.getDeclaredConstructors()) {
            Check.due("a constructor without arguments", maker.getParameterCount(), 0);
            Check.due("the constructor is public", maker.getModifiers(), Modifier.PUBLIC);
        }
        for (Field field : type.getDeclaredFields()) {
            boolean hidden = Modifier.isPrivate(field.getModifiers());
            Check.due(field + " is NONE or private", hidden || field.getName().equals("NONE"), true);
            Check.due(field + " is no static state", !Modifier.isStatic(field.getModifiers())
                    || Modifier.isFinal(field.getModifiers()), true);
        }
        privateNames(type, names);
        Check.finish();
    }

    private static void privateNames(Class<?> type, Set<String> names) {
        for (Class<?> inside : type.getDeclaredClasses()) {
            Check.due(inside + " is static", Modifier.isStatic(inside.getModifiers()), true);
            for (Method method : inside.getDeclaredMethods()) {
                Check.due(method + " bears no public name", names.contains(method.getName()), false);
            }
        }
        for (Method method : type.getDeclaredMethods()) {
            if (Modifier.isPrivate(method.getModifiers())) {
                Check.due(method + " bears no public name", names.contains(method.getName()), false);
            }
        }
    }

    private static String told(Method method) {
        StringBuilder all = new StringBuilder(method.getReturnType().getName() + " " + method.getName() + "(");
        Class<?>[] types = method.getParameterTypes();
        for (int i = 0; i < types.length; i++) {
            all.append(i == 0 ? "" : ",").append(types[i].getName());
        }
        return all.append(")").toString();
    }
}
