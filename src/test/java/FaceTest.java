import java.lang.reflect.Constructor;
import java.lang.reflect.Field;
import java.lang.reflect.Method;
import java.lang.reflect.Modifier;
import java.util.Set;
import java.util.TreeSet;

/** The face of the class is the document's and nothing more. */
public final class FaceTest {
    private static final Set<String> FACE = Set.of(
            "public int party()",
            "public int kind()",
            "public boolean price(int,long,long)",
            "public boolean out(int,int,long,long)",
            "public boolean back(int,int,long,long)",
            "public boolean sampled(int,long,long)",
            "public boolean share(int,long,long)",
            "public long balance(int,long)",
            "public long count(int,int)",
            "public long lost(int,int)",
            "public int settle(int,int,int)",
            "public long rest(int,int)",
            "public long sum(long)");

    public static void main(String[] args) {
        Due due = new Due("face");
        Class<?> face = KegDeposits.class;
        due.done("the class is public", Modifier.isPublic(face.getModifiers()));
        due.done("the class is final", Modifier.isFinal(face.getModifiers()));
        due.is("NONE", KegDeposits.NONE, -1);
        due.is("FULL", KegDeposits.FULL, -2);
        methods(due, face);
        fields(due, face);
        Constructor<?>[] constructors = face.getDeclaredConstructors();
        due.is("constructors", constructors.length, 1);
        due.done("the constructor is public", Modifier.isPublic(constructors[0].getModifiers()));
        due.is("the constructor's parameters", constructors[0].getParameterCount(), 0);
        due.end();
    }

    private static void methods(Due due, Class<?> face) {
        Set<String> shown = new TreeSet<>();
        Set<String> names = new TreeSet<>();
        for (Method method : face.getDeclaredMethods()) {
            if (!Modifier.isPrivate(method.getModifiers())) {
                shown.add(method.toString().replace("KegDeposits.", ""));
                names.add(method.getName());
            }
        }
        due.done("the methods are the face: " + shown, shown.equals(FACE));
        for (Method method : face.getDeclaredMethods()) {
            if (Modifier.isPrivate(method.getModifiers())) {
                due.refused("a private method is named " + method.getName(), names.contains(method.getName()));
            }
        }
    }

    private static void fields(Due due, Class<?> face) {
        for (Field field : face.getDeclaredFields()) {
            int modifiers = field.getModifiers();
            boolean constant = field.getName().equals("NONE") || field.getName().equals("FULL");
            due.done("field " + field.getName(), constant == !Modifier.isPrivate(modifiers));
            due.done("static field " + field.getName() + " is final",
                    !Modifier.isStatic(modifiers) || Modifier.isFinal(modifiers));
        }
    }
}
