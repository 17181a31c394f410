import java.lang.reflect.Field;
import java.lang.reflect.Method;
import java.lang.reflect.Modifier;
import java.util.Arrays;
import java.util.NoSuchElementException;
import java.util.TreeSet;

/** The public face, and those rules of LANGUAGE.md that the compiled class shows. */
public final class FaceTest {
    private static final String[] FACE = {
        "int feed(int,int,int,int,int)", "boolean end(int)", "int text()", "int fault()", "int now(int)",
        "int shares(int,boolean)", "int quarter(int,int) throws", "int event(int,int)", "int instrument(int,int)",
        "long weight(int,int) throws", "long adds(int,int,int,boolean) throws", "int run(int,int,int) throws",
        "int rank(int,int,int) throws", "int without(int,int,int) throws", "int with(int,int,int) throws",
        "int priced(int,int,int,int) throws", "int profit(int,int,int,int) throws", "int ifSplit(int,int,int) throws",
        "int tells(int,int,int)", "int grants(int,int,int,int)", "int earns(int,int)", "int prices(int,int)",
        "int undo()",
    };

    public static void main(String[] args) {
        methods();
        fields();
        constructors();
        classesInside();
        Check.finish();
    }

    private static String told(Method method) {
        StringBuilder text = new StringBuilder(method.getReturnType().getName()).append(' ').append(method.getName());
        text.append('(');
        for (Class<?> type : method.getParameterTypes()) {
            text.append(text.charAt(text.length() - 1) == '(' ? "" : ",").append(type.getName());
        }
        text.append(')');
        Class<?>[] thrown = method.getExceptionTypes();
        boolean one = thrown.length == 1 && thrown[0] == NoSuchElementException.class;
        return text.append(thrown.length == 0 ? "" : one ? " throws" : " throws others").toString();
    }

    private static void methods() {
        TreeSet<String> found = new TreeSet<>();
        for (Method method : DilutedDesk.class.getDeclaredMethods()) {
            if (Modifier.isPublic(method.getModifiers())) {
                found.add(told(method));
            } else {
                Check.due(method.getName() + " is private", Modifier.isPrivate(method.getModifiers()), true);
            }
        }
        TreeSet<String> due = new TreeSet<>(Arrays.asList(FACE));
        Check.due("public methods are those of the face " + found, found.equals(due), true);
    }

    private static void fields() {
        for (Field field : DilutedDesk.class.getDeclaredFields()) {
            boolean open = field.getName().equals("NONE");
            Check.due(field.getName() + " is public", Modifier.isPublic(field.getModifiers()), open);
            Check.due(field.getName() + " is private", Modifier.isPrivate(field.getModifiers()), !open);
            staticIsFinal(field);
        }
        Check.due("NONE", DilutedDesk.NONE, -1);
    }

    private static void staticIsFinal(Field field) {
        int modifiers = field.getModifiers();
        Check.due(field.getName() + " is final if static", !Modifier.isStatic(modifiers) || Modifier.isFinal(modifiers), true);
    }

    private static void constructors() {
        Check.due("constructors", DilutedDesk.class.getDeclaredConstructors().length, 1);
        Check.due("public constructors", DilutedDesk.class.getConstructors().length, 1);
        Check.due("its parameters", DilutedDesk.class.getConstructors()[0].getParameterCount(), 0);
        Check.due("the class is public", Modifier.isPublic(DilutedDesk.class.getModifiers()), true);
        Check.due("the class is final", Modifier.isFinal(DilutedDesk.class.getModifiers()), true);
    }

    private static void classesInside() {
        TreeSet<String> names = new TreeSet<>();
        for (Method method : DilutedDesk.class.getMethods()) {
            names.add(method.getName());
        }
        for (Class<?> inside : DilutedDesk.class.getDeclaredClasses()) {
            String name = inside.getSimpleName();
            Check.due(name + " is static", Modifier.isStatic(inside.getModifiers()), true);
            Check.due(name + " is public", Modifier.isPublic(inside.getModifiers()), false);
            int fields = 0;
            for (Field field : inside.getDeclaredFields()) {
                staticIsFinal(field);
                fields += Modifier.isStatic(field.getModifiers()) ? 0 : 1;
            }
            Check.due(name + " has at most twenty fields", fields <= 20, true);
            for (Method method : inside.getDeclaredMethods()) {
                Check.due(name + "." + method.getName() + " bears a name of the face", names.contains(method.getName()), false);
                Check.due(name + "." + method.getName() + " has at most seven parameters", method.getParameterCount() <= 7, true);
            }
        }
    }
}
