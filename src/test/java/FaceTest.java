import java.io.IOException;
import java.lang.reflect.Constructor;
import java.lang.reflect.Field;
import java.lang.reflect.Method;
import java.lang.reflect.Modifier;
import java.nio.file.Files;
import java.nio.file.Path;
import java.util.Arrays;
import java.util.Comparator;
import java.util.Random;
import java.util.TreeSet;

/** The public face, and such rules of ../shared/LANGUAGE.md as can be seen from outside or by a word. */
public final class FaceTest {
    private static final Check CHECK = new Check();
    private static final String[] METHODS = {
        "int shift(int)", "int kneel(int)", "int clock(int,int,int)", "int person(int,int)", "int say(int)",
        "int wipe()", "int fault()", "int judge(int)", "int done()", "int behind(int,int)", "int lies(int)",
        "int then(int)", "int agree(int,int,int,int)", "int style(int,int,int,int)", "int pack(int,int,int,int,int)",
        "int seen(int,boolean)", "int forget()", "int rounds(int)", "int ask(int)", "int halves(int,int)",
        "long knelt(int,int,int,int,int)", "int year(int,int,int)", "int image(int)", "int restore(int)",
        "int told(int)"};
    private static final String[] FIELDS = {"NONE", "UNKNOWN", "OUTSIDE", "STATE", "FULL", "NO", "LOST"};
    private static final String[] FORBIDDEN = {"import ", "package ", "->", "::", "Exact", "catch", "try ", "throw",
        "finally", "synchronized", "assert", "static {", "System.out", "Random", "Thread"};

    /** Numbers at which a row, a divisor or a sum might give way, and such as bring an object on. */
    private static final int[] NUMBERS = {Integer.MIN_VALUE, Integer.MIN_VALUE + 1, -365, -31, -7, -2, -1, 0, 0, 0, 1, 1,
        2, 3, 5, 6, 7, 9, 10, 11, 16, 17, 29, 30, 31, 59, 60, 99, 100, 358, 364, 365, 998, 999, 1000, 1752, 3000, 9999,
        10000, 111111111, 999999999, Integer.MAX_VALUE - 1, Integer.MAX_VALUE};
    private static final String SIGNS = "AAABF(((()>><$%hdk1199!";

    public static void main(String[] args) throws IOException {
        constants();
        members();
        nested();
        source();
        room();
        nothingThrows();
        CHECK.finish();
    }

    private static void constants() {
        CHECK.due("NONE", OxenKneel.NONE, -6);
        CHECK.due("UNKNOWN", OxenKneel.UNKNOWN, -1);
        CHECK.due("OUTSIDE", OxenKneel.OUTSIDE, -2);
        CHECK.due("STATE", OxenKneel.STATE, -3);
        CHECK.due("FULL", OxenKneel.FULL, -4);
        CHECK.due("NO", OxenKneel.NO, -5);
        CHECK.due("LOST", OxenKneel.LOST, -1000000000000000000L);
    }

    private static void members() {
        Class<?> face = OxenKneel.class;
        CHECK.holds("public", Modifier.isPublic(face.getModifiers()));
        CHECK.holds("final", Modifier.isFinal(face.getModifiers()));
        TreeSet<String> methods = new TreeSet<>();
        TreeSet<String> names = new TreeSet<>();
        for (Method method : face.getDeclaredMethods()) {
            if (!Modifier.isPrivate(method.getModifiers())) {
                methods.add(method.toString().replace("public ", "").replace("OxenKneel.", ""));
                names.add(method.getName());
            }
        }
        CHECK.holds("the methods " + methods, methods.equals(new TreeSet<>(java.util.List.of(METHODS))));
        for (Method method : face.getDeclaredMethods()) {
            boolean isPrivate = Modifier.isPrivate(method.getModifiers());
            CHECK.holds(method + " has a name of its own", !isPrivate || !names.contains(method.getName()));
            CHECK.holds(method + " has seven parameters at most", method.getParameterCount() <= 7);
        }
        TreeSet<String> fields = new TreeSet<>();
        for (Field field : face.getDeclaredFields()) {
            if (!Modifier.isPrivate(field.getModifiers())) {
                fields.add(field.getName());
            }
            CHECK.holds(field + ": static is final",
                !Modifier.isStatic(field.getModifiers()) || Modifier.isFinal(field.getModifiers()));
        }
        CHECK.holds("the constants " + fields, fields.equals(new TreeSet<>(java.util.List.of(FIELDS))));
        Constructor<?>[] made = face.getDeclaredConstructors();
        CHECK.holds("one constructor, public, of nothing",
            made.length == 1 && Modifier.isPublic(made[0].getModifiers()) && made[0].getParameterCount() == 0);
    }

    private static void nested() {
        CHECK.holds("twelve classes at most", OxenKneel.class.getDeclaredClasses().length < 12);
        for (Class<?> inside : OxenKneel.class.getDeclaredClasses()) {
            int modifiers = inside.getModifiers();
            CHECK.holds(inside + " is static and not public",
                Modifier.isStatic(modifiers) && !Modifier.isPublic(modifiers) && !Modifier.isProtected(modifiers));
            for (Method method : inside.getDeclaredMethods()) {
                for (String of : METHODS) {
                    CHECK.holds(method + " has a name of its own", !of.contains(" " + method.getName() + "("));
                }
            }
        }
    }

    private static void source() throws IOException {
        String text = Files.readString(Path.of("src/main/java/OxenKneel.java"));
        for (String word : FORBIDDEN) {
            CHECK.holds("without '" + word + "'", !text.contains(word));
        }
        CHECK.holds("signs 1 to 127 alone", text.chars().allMatch(sign -> sign > 0 && sign < 128));
    }

    /** No call makes an object: all rows are made with the object itself. Its calls stay below 512. */
    private static void room() {
        com.sun.management.ThreadMXBean bean =
            (com.sun.management.ThreadMXBean) java.lang.management.ManagementFactory.getThreadMXBean();
        OxenKneel x = new OxenKneel();
        eachCallOnce(x);
        bean.getCurrentThreadAllocatedBytes();
        long ahead = bean.getCurrentThreadAllocatedBytes();
        for (int i = 0; i < 15; i++) {
            eachCallOnce(x);
        }
        long made = bean.getCurrentThreadAllocatedBytes() - ahead;
        CHECK.holds("calls make nothing, but " + made + " bytes were made", made < 512);
    }

    private static void eachCallOnce(OxenKneel x) {
        x.shift(11);
        x.kneel(358);
        x.clock(358, 0, 0);
        x.person(0, 10);
        x.wipe();
        x.say('A');
        x.say('(');
        x.fault();
        x.judge(0);
        x.behind(0, 0);
        x.lies(0);
        x.then(6);
        x.done();
        x.agree(999, 998, 998, 997);
        x.style(1752, 9, 2, 0);
        x.pack(314159265, 271828182, 9, 20, 0);
        x.seen(5, true);
        x.rounds(0);
        x.ask(0);
        x.forget();
        x.halves(9999, 1);
        x.knelt(16, 5, 3, 0, 0);
        x.year(77, 99, 0);
        x.image(0);
        x.restore(0);
        x.told(30);
        x.say('A');
        x.say(')');
        x.done();
    }

    /** Whatever the numbers and however it stands; behind 512 calls answers are free, but none throws there either. */
    private static void nothingThrows() {
        Random random = new Random(11);
        Method[] methods = publicMethods();
        for (int run = 0; run < 300; run++) {
            OxenKneel x = new OxenKneel();
            for (int call = 0; call < 600; call++) {
                callsWithoutThrowing(x, methods[random.nextInt(methods.length)], random);
                if (random.nextInt(4) == 0) {
                    x.clock(x.told(5), 0, 0);
                }
                x.say(SIGNS.charAt(random.nextInt(SIGNS.length())));
                if (x.fault() == x.told(0) - 1) {
                    x.wipe();
                }
            }
        }
    }

    private static Method[] publicMethods() {
        Method[] methods = OxenKneel.class.getDeclaredMethods();
        return Arrays.stream(methods).filter(method -> Modifier.isPublic(method.getModifiers()))
            .sorted(Comparator.comparing(Method::getName)).toArray(Method[]::new);
    }

    private static void callsWithoutThrowing(OxenKneel x, Method method, Random random) {
        Object[] given = new Object[method.getParameterCount()];
        for (int i = 0; i < given.length; i++) {
            boolean isNumber = method.getParameterTypes()[i] == int.class;
            given[i] = isNumber ? (Object) NUMBERS[random.nextInt(NUMBERS.length)] : (Object) random.nextBoolean();
        }
        boolean answers = true;
        try {
            method.invoke(x, given);
        } catch (ReflectiveOperationException thrown) {
            answers = false;
        }
        CHECK.holds(method.getName() + Arrays.toString(given) + " answers", answers);
    }
}
