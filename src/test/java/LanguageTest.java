import java.lang.management.ManagementFactory;
import java.lang.reflect.Constructor;
import java.lang.reflect.Field;
import java.lang.reflect.Method;
import java.lang.reflect.Modifier;
import java.nio.file.Files;
import java.nio.file.Path;
import java.util.ArrayList;
import java.util.List;
import java.util.Set;
import java.util.TreeSet;

/** Looks at the class itself: its public face, the signs of its text, and what calls make. */
public final class LanguageTest {
    private static int wrong = 0;

    private static final String FACE = "int row(int,int,int);int set(int,int,long);int copy(int,int,int,int,int);long element(int,int);"
        + "int holds(int);int move(int,int,int,int);int says(int,int);int size(int);int solid(long,boolean);int figure(int);"
        + "int piece(long);int alter(int,long);int ask(int,int,int);int feed(int,int);int wipe();int read();long cubes(int);"
        + "long setOf(int);int whole(long);int parts();int free(int);int comes(int,long);int wrong(boolean);int loose(int);"
        + "int bars(int,int);int order(int,int);int ring();int serves(int);int fewest();int parted(int,int);int hidden();"
        + "int make(int);int halves(int);int line(int);int cut(int,int);int best();int helps(int);long slide(int,long,int);"
        + "int tunnels(int);long needed();int alike();int mirror(int);int turn(int);int thin(int,int);long spare(int);"
        + "int grow(int);int faces(int);int casts();int step();int again();int image();int back();int status(int)";

    private static void hold(boolean holds, String otherwise) {
        if (!holds) {
            wrong++;
            System.out.println(otherwise);
        }
    }

    public static void main(String[] args) throws Exception {
        face();
        signs(Files.readString(Path.of("src/main/java/MouldThatComesOff.java")));
        made();
        System.out.println(wrong == 0 ? "the class keeps to its face, and calls make no objects" : wrong + " faults");
        if (wrong != 0) System.exit(1);
    }

    private static String told(Method m) {
        List<String> types = new ArrayList<>();
        for (Class<?> c : m.getParameterTypes()) types.add(c.getSimpleName());
        return m.getReturnType().getSimpleName() + " " + m.getName() + "(" + String.join(",", types) + ")";
    }

    private static void face() {
        Class<?> c = MouldThatComesOff.class;
        hold(Modifier.isPublic(c.getModifiers()) && Modifier.isFinal(c.getModifiers()), "the class is not public and final");
        Set<String> shown = new TreeSet<>();
        Set<String> names = new TreeSet<>();
        for (Method m : c.getDeclaredMethods()) {
            if (Modifier.isPrivate(m.getModifiers())) continue;
            hold(Modifier.isPublic(m.getModifiers()) && !Modifier.isStatic(m.getModifiers()), "not of the face: " + m);
            shown.add(told(m));
            names.add(m.getName());
        }
        hold(shown.equals(new TreeSet<>(List.of(FACE.split(";")))), "the public methods are " + shown);
        for (Method m : c.getDeclaredMethods()) {
            hold(!Modifier.isPrivate(m.getModifiers()) || !names.contains(m.getName()), "a private method bears a public name: " + m);
        }
        for (Class<?> inside : c.getDeclaredClasses()) for (Method m : inside.getDeclaredMethods()) {
            hold(!names.contains(m.getName()), "a method inside bears a public name: " + m);
        }
        for (Field f : c.getDeclaredFields()) {
            hold(Modifier.isPrivate(f.getModifiers()) || f.getName().equals("NONE"), "a field that is not private: " + f);
        }
        Constructor<?>[] made = c.getDeclaredConstructors();
        hold(made.length == 1 && made[0].getParameterCount() == 0 && Modifier.isPublic(made[0].getModifiers()), "the constructor");
    }

    private static void signs(String source) {
        for (int k = 0; k < source.length(); k++) hold(source.charAt(k) < 128, "a sign beyond 127 at " + k);
    }

    /** Calls use again what the constructor made: the room that all calls of a run share is then not theirs to fill. */
    private static void made() {
        com.sun.management.ThreadMXBean threads = (com.sun.management.ThreadMXBean) ManagementFactory.getThreadMXBean();
        everyCall(new MouldThatComesOff());
        threads.getCurrentThreadAllocatedBytes();
        MouldThatComesOff x = new MouldThatComesOff();
        long before = threads.getCurrentThreadAllocatedBytes();
        everyCall(x);
        long bytes = threads.getCurrentThreadAllocatedBytes() - before;
        hold(bytes < 4096, "calls made objects of " + bytes + " bytes");
    }

    private static void everyCall(MouldThatComesOff x) {
        for (int k = 0; k < 5; k++) {
            x.size(4); x.solid(0x0000123400560000L, true); x.row(0, 3, 40); x.set(0, 1, 1); x.copy(0, 0, 1, 0, 3); x.element(0, 0);
            x.holds(0); x.move(1, 1, 0, 0); x.move(2, 5, 2, 4); x.says(1, 1); x.piece(1); x.alter(0, 3); x.ask(0, 1, 2); x.ask(1, 1, 2);
            x.feed(0x626F7830, 4); x.feed(0x746F3131, 4); x.read(); x.feed(1, 1); x.wipe(); x.cubes(2); x.setOf(0); x.whole(-1);
            x.parts(); x.free(0); x.comes(1, 1); x.wrong(true); x.loose(0); x.bars(1, 0); x.order(0, 0); x.ring(); x.serves(63);
            x.fewest(); x.parted(63, 1); x.hidden(); x.make(63); x.halves(0); x.line(0); x.cut(0, 1); x.best(); x.helps(1);
            x.slide(1, 1, 1); x.tunnels(0); x.needed(); x.alike(); x.mirror(0); x.turn(0); x.thin(0, 0); x.spare(0); x.grow(0);
            x.faces(0); x.casts(); x.step(); x.image(); x.again(); x.back(); x.status(7); x.figure(0);
        }
    }
}
