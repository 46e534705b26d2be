import java.lang.reflect.Constructor;
import java.lang.reflect.Field;
import java.lang.reflect.Method;
import java.lang.reflect.Modifier;
import java.util.Set;
import java.util.TreeSet;

/** The public face is the document's, and nothing else can be seen from outside. */
public final class FaceTest {
    private static final String[] FACE = {
        "void add(int,int)", "void remove(int)", "int drop(int)", "int make(int,int,int)",
        "int grow(int,int)", "int shrink(int,int)", "void delete(int)", "int mend(int)",
        "int write(int,int,int)", "int read(int,int)", "int empty(int)", "int step()", "int moving()",
        "int volume(int,int)", "int where(int,int,int)", "int free(int)", "void cut(int)",
        "void off()", "boolean plug(int,boolean)", "int start()", "int number()",
        "int look(int,int,int)",
    };

    public static void main(String[] args) {
        Set<String> due = new TreeSet<>(Set.of(FACE));
        Set<String> got = new TreeSet<>();
        Set<String> names = new TreeSet<>();
        for (Method m : ExtentShelf.class.getDeclaredMethods()) {
            if (!Modifier.isPrivate(m.getModifiers())) {
                got.add(describe(m));
                names.add(m.getName());
            }
        }
        Check.same("the methods", got.toString(), due.toString());
        for (Method m : ExtentShelf.class.getDeclaredMethods()) {
            if (Modifier.isPrivate(m.getModifiers())) {
                Check.same("private " + m.getName(), String.valueOf(names.contains(m.getName())), "false");
            }
        }
        for (Field f : ExtentShelf.class.getDeclaredFields()) {
            boolean seen = !Modifier.isPrivate(f.getModifiers());
            Check.same("seen field " + f.getName(), String.valueOf(seen), String.valueOf(f.getName().equals("NONE")));
        }
        Constructor<?>[] made = ExtentShelf.class.getDeclaredConstructors();
        Check.same("the constructors", made.length + " " + made[0].toString(), "1 public ExtentShelf()");
        Check.same("the class", Modifier.toString(ExtentShelf.class.getModifiers()), "public final");
        Check.due("NONE", () -> ExtentShelf.NONE, -1);
        Check.end();
    }

    private static String describe(Method m) {
        StringBuilder text = new StringBuilder(m.getReturnType() + " " + m.getName() + "(");
        for (Class<?> type : m.getParameterTypes()) {
            text.append(text.charAt(text.length() - 1) == '(' ? "" : ",").append(type);
        }
        return text.append(')').toString();
    }
}
