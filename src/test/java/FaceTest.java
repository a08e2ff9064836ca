import java.lang.reflect.Constructor;
import java.lang.reflect.Field;
import java.lang.reflect.Method;
import java.lang.reflect.Modifier;
import java.util.Arrays;
import java.util.TreeSet;

/** The class shows the document's face and nothing else (LANGUAGE.md, rule 1). */
public final class FaceTest {
    private static final String[] FACE = {
        "public static final int BreakingDisk.NONE",
        "public BreakingDisk()",
        "public boolean BreakingDisk.put(long,int)",
        "public int BreakingDisk.path() throws java.lang.IllegalArgumentException",
        "public void BreakingDisk.write(int,int) throws java.lang.IndexOutOfBoundsException,java.lang.IllegalStateException",
        "public void BreakingDisk.rename(int,int,int,int) throws java.lang.IndexOutOfBoundsException,"
            + "java.lang.IllegalArgumentException,java.lang.IllegalStateException",
        "public void BreakingDisk.delete(int,int) throws java.lang.IndexOutOfBoundsException,"
            + "java.lang.IllegalArgumentException,java.lang.IllegalStateException",
        "public int BreakingDisk.sync()",
        "public int BreakingDisk.breakOff(int) throws java.lang.IllegalArgumentException",
        "public int BreakingDisk.size(int,int)",
        "public int BreakingDisk.at(int,int,int)",
        "public int BreakingDisk.list(int)",
        "public int BreakingDisk.listed(int,int)",
        "public int BreakingDisk.count(int)",
    };

    public static void main(String[] args) {
        Check check = new Check();
        check.due("the face", new TreeSet<>(Arrays.asList(FACE)), () -> shown());
        check.due("the class is public and final", Modifier.PUBLIC | Modifier.FINAL,
                () -> BreakingDisk.class.getModifiers() & (Modifier.PUBLIC | Modifier.FINAL));
        check.end("FaceTest");
    }

    private static TreeSet<String> shown() {
        TreeSet<String> shown = new TreeSet<>();
        for (Field field : BreakingDisk.class.getDeclaredFields()) {
            if (!Modifier.isPrivate(field.getModifiers())) {
                shown.add(field.toString());
            }
        }
        for (Constructor<?> constructor : BreakingDisk.class.getDeclaredConstructors()) {
            if (!Modifier.isPrivate(constructor.getModifiers())) {
                shown.add(constructor.toString());
            }
        }
        for (Method method : BreakingDisk.class.getDeclaredMethods()) {
            if (!Modifier.isPrivate(method.getModifiers())) {
                shown.add(method.toString());
            }
        }
        return shown;
    }
}
