import java.io.IOException;
import java.lang.reflect.Constructor;
import java.lang.reflect.Field;
import java.lang.reflect.Method;
import java.lang.reflect.Modifier;
import java.nio.file.Files;
import java.nio.file.Path;
import java.util.TreeSet;

/** The public face, and such rules of ../shared/LANGUAGE.md as can be seen from outside or by a word. */
public final class FaceTest {
    private static final Check CHECK = new Check();
    private static final String[] METHODS = {
        "int shift(int)", "int kneel(int)", "int clock(int,int,int)", "int person(int,int)", "int say(int)",
        "int wipe()", "int fault()", "int judge(int)", "int done()", "int behind(int,int)", "int lies(int)",
        "int then(int)", "int agree(int,int,int,int)", "int style(int,int,int,int)", "int pack(int,int,int,int,int)",
        "int seen(int,boolean)", "int forget()", "int rounds(int)", "int ask(int)", "int halves(int,int)",
        "long knelt(int,int,int,int,int)", "int year(int,int,int)", "int image(int)", "int restore(int)",
        "int told(int)"};
    private static final String[] FIELDS = {"NONE", "UNKNOWN", "OUTSIDE", "STATE", "FULL", "NO", "LOST"};
    private static final String[] FORBIDDEN = {"import ", "package ", "->", "::", "Exact", "catch", "try ", "throw",
        "finally", "synchronized", "assert", "static {", "System.out", "Random", "Thread"};

    public static void main(String[] args) throws IOException {
        constants();
        members();
        nested();
        source();
        room();
        CHECK.finish();
    }

    private static void constants() {
        CHECK.due("NONE", OxenKneel.NONE, -6);
        CHECK.due("UNKNOWN", OxenKneel.UNKNOWN, -1);
        CHECK.due("OUTSIDE", OxenKneel.OUTSIDE, -2);
        CHECK.due("STATE", OxenKneel.STATE, -3);
        CHECK.due("FULL", OxenKneel.FULL, -4);
        CHECK.due("NO", OxenKneel.NO, -5);
        CHECK.due("LOST", OxenKneel.LOST, -1000000000000000000L);
    }

    private static void members() {
        Class<?> face = OxenKneel.class;
        CHECK.holds("public", Modifier.isPublic(face.getModifiers()));
        CHECK.holds("final", Modifier.isFinal(face.getModifiers()));
        TreeSet<String> methods = new TreeSet<>();
        TreeSet<String> names = new TreeSet<>();
        for (Method method : face.getDeclaredMethods()) {
            if (!Modifier.isPrivate(method.getModifiers())) {
                methods.add(method.toString().replace("public ", "").replace("OxenKneel.", ""));
                names.add(method.getName());
            }
        }
        CHECK.holds("the methods " + methods, methods.equals(new TreeSet<>(java.util.List.of(METHODS))));
        for (Method method : face.getDeclaredMethods()) {
            boolean isPrivate = Modifier.isPrivate(method.getModifiers());
            CHECK.holds(method + " has a name of its own", !isPrivate || !names.contains(method.getName()));
            CHECK.holds(method + " has seven parameters at most", method.getParameterCount() <= 7);
        }
        TreeSet<String> fields = new TreeSet<>();
        for (Field field : face.getDeclaredFields()) {
            if (!Modifier.isPrivate(field.getModifiers())) {
                fields.add(field.getName());
            }
            CHECK.holds(field + ": static is final",
                !Modifier.isStatic(field.getModifiers()) || Modifier.isFinal(field.getModifiers()));
        }
        CHECK.holds("the constants " + fields, fields.equals(new TreeSet<>(java.util.List.of(FIELDS))));
        Constructor<?>[] made = face.getDeclaredConstructors();
        CHECK.holds("one constructor, public, of nothing",
            made.length == 1 && Modifier.isPublic(made[0].getModifiers()) && made[0].getParameterCount() == 0);
    }

    private static void nested() {
        CHECK.holds("twelve classes at most", OxenKneel.class.getDeclaredClasses().length < 12);
        for (Class<?> inside : OxenKneel.class.getDeclaredClasses()) {
            int modifiers = inside.getModifiers();
            CHECK.holds(inside + " is static and not public",
                Modifier.isStatic(modifiers) && !Modifier.isPublic(modifiers) && !Modifier.isProtected(modifiers));
            for (Method method : inside.getDeclaredMethods()) {
                for (String of : METHODS) {
                    CHECK.holds(method + " has a name of its own", !of.contains(" " + method.getName() + "("));
                }
            }
        }
    }

    private static void source() throws IOException {
        String text = Files.readString(Path.of("src/main/java/OxenKneel.java"));
        for (String word : FORBIDDEN) {
            CHECK.holds("without '" + word + "'", !text.contains(word));
        }
        CHECK.holds("signs 1 to 127 alone", text.chars().allMatch(sign -> sign > 0 && sign < 128));
    }

    /** No call makes an object: all rows are made with the object itself. Its calls stay below 512. */
    private static void room() {
        com.sun.management.ThreadMXBean bean =
            (com.sun.management.ThreadMXBean) java.lang.management.ManagementFactory.getThreadMXBean();
        OxenKneel x = new OxenKneel();
        eachCallOnce(x);
        bean.getCurrentThreadAllocatedBytes();
        long ahead = bean.getCurrentThreadAllocatedBytes();
        for (int i = 0; i < 15; i++) {
            eachCallOnce(x);
        }
        long made = bean.getCurrentThreadAllocatedBytes() - ahead;
        CHECK.holds("calls make nothing, but " + made + " bytes were made", made < 512);
    }

    private static void eachCallOnce(OxenKneel x) {
        x.shift(11);
        x.kneel(358);
        x.clock(358, 0, 0);
        x.person(0, 10);
        x.wipe();
        x.say('A');
        x.say('(');
        x.fault();
        x.judge(0);
        x.behind(0, 0);
        x.lies(0);
        x.then(6);
        x.done();
        x.agree(999, 998, 998, 997);
        x.style(1752, 9, 2, 0);
        x.pack(314159265, 271828182, 9, 20, 0);
        x.seen(5, true);
        x.rounds(0);
        x.ask(0);
        x.forget();
        x.halves(9999, 1);
        x.knelt(16, 5, 3, 0, 0);
        x.year(77, 99, 0);
        x.image(0);
        x.restore(0);
        x.told(30);
        x.say('A');
        x.say(')');
        x.done();
    }
}
