import java.io.IOException;
import java.lang.reflect.Constructor;
import java.lang.reflect.Field;
import java.lang.reflect.Method;
import java.lang.reflect.Modifier;
import java.nio.file.Files;
import java.nio.file.Path;
import java.util.List;
import java.util.Set;
import java.util.TreeSet;

/** The public face, and promise 1: a new object. */
public final class FaceTest {
    private static final String[] FACE = {
        "deposit/2", "pay/3", "fee/2", "note/1", "goBack/1", "setPatience/1", "adopt/2", "dismiss/1",
        "forge/2", "relink/1", "seal/0", "take/1", "restore/1", "undo/0", "append/1", "clearText/0",
        "check/0", "count/1", "entry/2", "balance/2", "onChain/1", "branch/2", "sealed/2", "common/2",
        "failing/2", "orders/0", "peak/2"
    };

    private FaceTest() {
    }

    public static void main(String[] args) throws IOException {
        Due due = new Due("FaceTest");
        face(due);
        faceOfDocument(due);
        newObject(due);
        newObjectIsEmpty(due);
        objectsAreApart(due);
        due.end();
    }

    private static void face(Due due) {
        due.is("INVALID_ARGUMENT", OrphanChain.INVALID_ARGUMENT, -100001);
        due.is("ILLEGAL_STATE", OrphanChain.ILLEGAL_STATE, -100002);
        due.is("CAPACITY_EXCEEDED", OrphanChain.CAPACITY_EXCEEDED, -100003);
        due.is("NONE", OrphanChain.NONE, -100009);
        due.holds("the class is public and final",
                Modifier.isPublic(OrphanChain.class.getModifiers())
                && Modifier.isFinal(OrphanChain.class.getModifiers()));
        Set<String> visible = new TreeSet<>();
        for (Method method : OrphanChain.class.getDeclaredMethods()) {
            if (!Modifier.isPrivate(method.getModifiers())) {
                visible.add(method.getName() + "/" + method.getParameterCount());
                due.holds(method + " is an int of ints", isOfInts(method));
            }
        }
        due.same("the methods", visible.toString(), new TreeSet<>(Set.of(FACE)).toString());
        Set<String> constants = new TreeSet<>();
        for (Field field : OrphanChain.class.getDeclaredFields()) {
            if (!Modifier.isPrivate(field.getModifiers())) {
                constants.add(field.getName());
            }
        }
        due.same("the constants", constants.toString(),
                "[CAPACITY_EXCEEDED, ILLEGAL_STATE, INVALID_ARGUMENT, NONE]");
        Constructor<?>[] constructors = OrphanChain.class.getDeclaredConstructors();
        due.is("constructors", constructors.length, 1);
        due.is("their parameters", constructors[0].getParameterCount(), 0);
        due.holds("the constructor is public", Modifier.isPublic(constructors[0].getModifiers()));
    }

    /** Each line of the face that the document writes stands in the program, and this has no others. */
    private static void faceOfDocument(Due due) throws IOException {
        String source = Files.readString(Path.of("src/main/java/OrphanChain.java"));
        List<String> lines = Document.read().pieces("The public face").stream()
                .filter(line -> line.startsWith("public ")).toList();
        due.is("lines of the face", lines.size(), FACE.length + 6);
        for (String line : lines) {
            String body = line.contains("(") ? line.replace(";", " {") : line;
            due.holds("the program has " + line, source.contains("\n    " + body + "\n")
                    || source.contains("\n" + body + "\n"));
        }
        due.is("lines of the program that are public", source.split("\\bpublic\\b", -1).length - 1, lines.size());
    }

    private static boolean isOfInts(Method method) {
        boolean ints = method.getReturnType() == int.class && Modifier.isPublic(method.getModifiers());
        for (Class<?> type : method.getParameterTypes()) {
            ints = ints && type == int.class;
        }
        return ints;
    }

    private static void newObject(Due due) {
        OrphanChain x = new OrphanChain();
        int[] counts = {1, 0, 1, 0, 0, 0, 3, 0, 0, 0, OrphanChain.NONE, 1, 0, 0, 0};
        for (int what = 0; what < counts.length; what++) {
            due.is("1: count(" + what + ")", x.count(what), counts[what]);
        }
        int[] told = {0, 0, 0, 0, OrphanChain.NONE, 1, 1, 1, OrphanChain.NONE, 1, 0};
        for (int what = 0; what < told.length; what++) {
            due.is("1: entry(0, " + what + ")", x.entry(0, what), told[what]);
        }
        for (int account = 0; account <= 5; account++) {
            due.is("1: balance(" + account + ", 0)", x.balance(account, 0), 0);
        }
        due.is("1: onChain(0)", x.onChain(0), 0);
        due.is("1: onChain(1)", x.onChain(1), OrphanChain.NONE);
    }

    private static void newObjectIsEmpty(Due due) {
        OrphanChain x = new OrphanChain();
        due.is("1: entry(1, 0)", x.entry(1, 0), OrphanChain.INVALID_ARGUMENT);
        due.is("1: branch(0, 0)", x.branch(0, 0), OrphanChain.INVALID_ARGUMENT);
        due.is("1: sealed(0, 0)", x.sealed(0, 0), OrphanChain.INVALID_ARGUMENT);
        due.is("1: restore(0)", x.restore(0), OrphanChain.ILLEGAL_STATE);
        due.is("1: restore(1)", x.restore(1), OrphanChain.ILLEGAL_STATE);
        due.is("1: undo()", x.undo(), OrphanChain.ILLEGAL_STATE);
        due.is("1: check()", x.check(), -1000);
        due.is("1: orders()", x.orders(), 1);
        due.is("1: peak(0, 0)", x.peak(0, 0), 0);
        due.is("1: peak(5, 1)", x.peak(5, 1), 0);
    }

    private static void objectsAreApart(Due due) {
        OrphanChain one = new OrphanChain();
        OrphanChain other = new OrphanChain();
        one.deposit(1, 7);
        one.take(0);
        one.append('4');
        one.seal();
        due.is("1: count(0) of another", other.count(0), 1);
        due.is("1: count(12) of another", other.count(12), 0);
        due.is("1: count(13) of another", other.count(13), 0);
        due.is("1: count(14) of another", other.count(14), 0);
        due.is("1: count(7) of another", other.count(7), 0);
    }
}
