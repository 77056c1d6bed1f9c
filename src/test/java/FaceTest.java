import java.lang.reflect.Field;
import java.lang.reflect.Method;
import java.lang.reflect.Modifier;
import java.util.ArrayList;
import java.util.Comparator;
import java.util.List;
import java.util.TreeSet;

/** The face is the document's and no more; no call throws, whatever its numbers; calls make next to no objects. */
public final class FaceTest {
    private static final String FACE = "int feed 1,int terrace 0,int paneOf 2,int lookerOf 2,int pane 1,int looker 2,"
        + "int stands 4,int roster 2,int wall 2,int worth 2,int law 1,int days 1,int back 0,int counts 3,int owner 2,"
        + "int owns 3,int nobodys 1,int from 2,int lost 1,int richest 2,int staredOut 3,int moreHours 3,"
        + "int bestPane 4,int freeHours 2,int cover 0,int shown 1,int walls 3,long share 3,int two 4,int whichLaw 0,"
        + "int whichKind 3,long ill 5,int busy 1,int together 2,int swap 1,int heir 3,int even 1,int last 0,"
        + "int joint 3,int rank 2,int gap 2,int wasted 2,int ahead 2,int bestLaw 2,int newcomer 3,int mostSeen 1,"
        + "int duels 2,int row 1,int judge 1,int clear 0,int lots 3,int image 0,int restore 0,int count 1";
    private static final int[] NUMBERS = {Integer.MIN_VALUE, Integer.MIN_VALUE + 1, -9, -1, 0, 1, 2, 3, 4, 5, 6, 7, 8,
        9, 10, 23, 24, 95, 96, 99, 100, 255, 256, 998, 999, 1000, 9999, 10000, Integer.MAX_VALUE - 1,
        Integer.MAX_VALUE};
    private static int wrong = 0;

    private static void hold(String what, boolean so) {
        if (!so) {
            wrong++;
            System.out.println("not so: " + what);
        }
    }

    private static List<Method> methods() {
        List<Method> methods = new ArrayList<>();
        for (Method m : WindowTaken.class.getMethods()) {
            if (m.getDeclaringClass() == WindowTaken.class) {
                methods.add(m);
            }
        }
        methods.sort(Comparator.comparing(Method::getName));
        return methods;
    }

    private static void face() {
        TreeSet<String> want = new TreeSet<>(List.of(FACE.split(",")));
        TreeSet<String> names = new TreeSet<>();
        TreeSet<String> got = new TreeSet<>();
        for (Method m : methods()) {
            got.add(m.getReturnType() + " " + m.getName() + " " + m.getParameterCount());
            names.add(m.getName());
            for (Class<?> number : m.getParameterTypes()) {
                hold(m + " takes ints", number == int.class);
            }
        }
        hold("the public methods are " + want + ", not " + got, got.equals(want));
        int modifiers = WindowTaken.class.getModifiers();
        hold("public and final", Modifier.isPublic(modifiers) && Modifier.isFinal(modifiers));
        hold("one constructor", WindowTaken.class.getDeclaredConstructors().length == 1);
        hold("a public one of nothing", WindowTaken.class.getConstructors().length == 1
            && WindowTaken.class.getConstructors()[0].getParameterCount() == 0);
        for (Method m : WindowTaken.class.getDeclaredMethods()) {
            boolean open = Modifier.isPublic(m.getModifiers());
            hold(m + " is private or of the face", open || Modifier.isPrivate(m.getModifiers()));
            hold(m + " has a name of its own", open || !names.contains(m.getName()));
            hold(m + " takes at most seven", m.getParameterCount() <= 7);
        }
        for (Class<?> c : WindowTaken.class.getDeclaredClasses()) {
            hold(c + " is static", Modifier.isStatic(c.getModifiers()));
            own(c);
        }
        own(WindowTaken.class);
        for (Field f : WindowTaken.class.getDeclaredFields()) {
            hold(f + " is private", Modifier.isPrivate(f.getModifiers()));
        }
    }

    private static void own(Class<?> c) {
        int fields = 0;
        for (Field f : c.getDeclaredFields()) {
            boolean fixed = Modifier.isStatic(f.getModifiers());
            fields += fixed ? 0 : 1;
            hold(f + " is final, if static", !fixed || Modifier.isFinal(f.getModifiers()));
        }
        hold(c + " has at most twenty fields", fields <= 20);
    }

    private static long seed = 12345;

    private static int draw(int below) {
        seed = seed * 6364136223846793005L + 1442695040888963407L;
        return (int) ((seed >>> 33) % below);
    }

    private static Object answer(WindowTaken x, Method m, boolean wild) {
        Object[] args = new Object[m.getParameterCount()];
        for (int i = 0; i < args.length; i++) {
            args[i] = wild ? NUMBERS[draw(NUMBERS.length)] : draw(6);
        }
        try {
            return m.invoke(x, args);
        } catch (ReflectiveOperationException e) {
            hold(m.getName() + " throws " + e.getCause(), false);
            return null;
        }
    }

    private static void noCallThrows() {
        List<Method> methods = methods();
        for (int run = 0; run < 300; run++) {
            WindowTaken x = new WindowTaken();
            for (int i = 0; i < 512; i++) {
                answer(x, methods.get(draw(methods.size())), draw(1 + run % 3) != 0);
            }
        }
    }

    private static WindowTaken full() {
        WindowTaken x = new WindowTaken();
        for (int i = 0; i < 6; i++) {
            x.pane(37 * i + 11);
        }
        for (int i = 0; i < 5; i++) {
            x.looker(5 - i, i + 4);
            x.stands(i, i, 18 + i, i);
        }
        return x;
    }

    private static long dearCalls(WindowTaken x) {
        long sum = x.from(0, 7) + x.lost(0) + x.moreHours(1, 0, 9) + x.bestPane(0, 3, 9, 0) + x.freeHours(0, 9);
        sum += x.walls(0, 9, 0) + x.two(0, 1, 4, 9) + x.whichLaw() + x.whichKind(0, 9, 0) + x.ill(0, 1, 8, 20, 0);
        sum += x.swap(9) + x.heir(0, 0, 9) + x.last() + x.ahead(0, 1) + x.newcomer(0, 0, 0) + x.lots(20, 1, 0);
        sum += x.stands(0, 0, 9, 1) + x.wall(0, 0) + x.back() + x.back() + x.image() + x.restore() + x.cover();
        x.feed('u');
        x.feed('1');
        x.feed(';');
        return sum + x.terrace() + x.days(1) + x.count(4);
    }

    private static void noCallMakesObjects() {
        com.sun.management.ThreadMXBean threads =
            (com.sun.management.ThreadMXBean) java.lang.management.ManagementFactory.getThreadMXBean();
        WindowTaken x = full();
        dearCalls(x);
        long before = threads.getThreadAllocatedBytes(Thread.currentThread().getId());
        for (int i = 0; i < 15; i++) {
            dearCalls(x);
        }
        long made = threads.getThreadAllocatedBytes(Thread.currentThread().getId()) - before;
        hold("15 rounds of dear calls make " + made + " bytes", made < 10000);
    }

    public static void main(String[] args) {
        face();
        noCallThrows();
        noCallMakesObjects();
        System.out.println(wrong == 0 ? "the face is as told" : wrong + " things are not as told");
        if (wrong != 0) {
            System.exit(1);
        }
    }
}
