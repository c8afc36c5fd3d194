import java.lang.reflect.Constructor;
import java.lang.reflect.Field;
import java.lang.reflect.Method;
import java.lang.reflect.Modifier;
import java.util.Set;
import java.util.TreeSet;

/** The face is the document's, and nothing else of the class can be seen. */
public final class FaceTest {
    private static final String[] FACE = {
        "public static final int BAD", "public static final int FULL", "public static final int NOT",
        "public SnapshotPieces()",
        "public int leaf(int,long)", "public long value(int,int)", "public long digest(int,int)",
        "public int giver(int,int)", "public int faults(int)", "public int named(int)",
        "public int target(int)", "public int ask(int,int,boolean)", "public int play(long,int)",
        "public int missing(int)", "public int joined()", "public long held(int)", "public long mine(int)",
        "public int rot(int,long)", "public int cut()", "public int count(int)",
    };

    public static void main(String[] args) {
        Set<String> seen = new TreeSet<>();
        Set<String> publicNames = new TreeSet<>();
        Set<String> privateNames = new TreeSet<>();
        Class<?> face = SnapshotPieces.class;
        for (Field f : face.getDeclaredFields()) {
            if (!Modifier.isPrivate(f.getModifiers())) {
                seen.add(Modifier.toString(f.getModifiers()) + " " + f.getType() + " " + f.getName());
            }
        }
        for (Constructor<?> c : face.getDeclaredConstructors()) {
            seen.add(c.toString());
        }
        for (Method m : face.getDeclaredMethods()) {
            if (Modifier.isPrivate(m.getModifiers())) {
                privateNames.add(m.getName());
            } else {
                seen.add(m.toString().replace("SnapshotPieces.", ""));
                publicNames.add(m.getName());
            }
        }
        Checks checks = new Checks();
        for (String member : FACE) {
            checks.due("the face has " + member, seen.contains(member) ? 1 : 0, 1);
        }
        checks.due("members that can be seen: " + seen, seen.size(), FACE.length);
        checks.due("class public and final", face.getModifiers(), Modifier.PUBLIC | Modifier.FINAL);
        privateNames.retainAll(publicNames);
        checks.due("private methods with a public one's name: " + privateNames, privateNames.size(), 0);
        for (Class<?> inside : face.getDeclaredClasses()) {
            int hidden = inside.getModifiers() & (Modifier.PUBLIC | Modifier.PROTECTED);
            checks.due("can be seen: " + inside.getName(), hidden, 0);
            checks.due("static: " + inside.getName(), Modifier.isStatic(inside.getModifiers()) ? 1 : 0, 1);
            staticFieldsAreFinal(checks, inside);
        }
        staticFieldsAreFinal(checks, face);
        checks.due("BAD", SnapshotPieces.BAD, -1);
        checks.due("FULL", SnapshotPieces.FULL, -2);
        checks.due("NOT", SnapshotPieces.NOT, -3);
        checks.end();
    }

    private static void staticFieldsAreFinal(Checks checks, Class<?> one) {
        for (Field f : one.getDeclaredFields()) {
            boolean kept = !Modifier.isStatic(f.getModifiers()) || Modifier.isFinal(f.getModifiers());
            checks.due("no static state: " + one.getName() + "." + f.getName(), kept ? 1 : 0, 1);
        }
    }
}
