import java.io.IOException;
import java.lang.reflect.Method;
import java.lang.reflect.Modifier;
import java.nio.file.Files;
import java.nio.file.Path;

/** The examples of README.md answer what it says there, and its table of calls has every call. */
public final class ReadmeTest {
    private static final Path README = Path.of("README.md");

    public static void main(String[] args) throws IOException {
        examples();
        tableOfCalls(Files.readString(README));
        Check.end();
    }

    private static void examples() {
        ExtentShelf shelf = new ExtentShelf();
        disksVolumesWords(shelf);
        lostAndMended(shelf);
        emptied(shelf);
        cutOff(shelf);
    }

    private static void disksVolumesWords(ExtentShelf shelf) {
        Check.done("add(0, 4)", () -> shelf.add(0, 4));
        Check.done("add(1, 4)", () -> shelf.add(1, 4));
        Check.due("make(2, 1, 1)", () -> shelf.make(2, 1, 1), 0);
        Check.due("volume(0, 3)", () -> shelf.volume(0, 3), 4);
        Check.due("write(0, 0, 77)", () -> shelf.write(0, 0, 77), 2);
        Check.due("read(0, 0)", () -> shelf.read(0, 0), 77);
    }

    private static void lostAndMended(ExtentShelf shelf) {
        Check.done("off()", () -> shelf.off());
        Check.dueBoolean("plug(1, false)", () -> shelf.plug(1, false), true);
        Check.due("start()", () -> shelf.start(), 3);
        Check.due("read(0, 0) of the leg that is left", () -> shelf.read(0, 0), 77);
        Check.due("drop(1)", () -> shelf.drop(1), 1);
        Check.done("add(2, 4)", () -> shelf.add(2, 4));
        Check.done("add(3, 4)", () -> shelf.add(3, 4));
        Check.due("mend(0)", () -> shelf.mend(0), 1);
        Check.due("where(0, 0, 1)", () -> shelf.where(0, 0, 1), 16);
    }

    private static void emptied(ExtentShelf shelf) {
        Check.due("empty(0)", () -> shelf.empty(0), 1);
        for (int k = 0; k < 3; k++) {
            Check.due("step()", () -> shelf.step(), 1);
            Check.due("write(0, 0, 78)", () -> shelf.write(0, 0, 78), 2);
        }
        Check.due("the last step()", () -> shelf.step(), 0);
        Check.due("where(0, 0, 0)", () -> shelf.where(0, 0, 0), 24);
        Check.done("remove(0)", () -> shelf.remove(0));
    }

    private static void cutOff(ExtentShelf shelf) {
        Check.done("cut(20)", () -> shelf.cut(20));
        Check.badState("make(0, 1, 3)", () -> shelf.make(0, 1, 3));
        Check.due("number()", () -> shelf.number(), ExtentShelf.NONE);
        Check.due("start() after the cut", () -> shelf.start(), 10);
        Check.due("read(0, 0) after the cut", () -> shelf.read(0, 0), 78);
    }

    private static void tableOfCalls(String readme) {
        for (Method m : ExtentShelf.class.getDeclaredMethods()) {
            if (Modifier.isPublic(m.getModifiers())) {
                String row = "\n| `" + m.getName() + "(";
                Check.same("README.md has a row of " + m.getName(), String.valueOf(readme.contains(row)), "true");
            }
        }
    }
}
