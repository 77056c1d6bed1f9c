import java.lang.reflect.Method;
import java.util.ArrayList;
import java.util.Comparator;
import java.util.List;

/** Long runs of mixed calls, each answer held against the slow model's; the seeds are fixed. */
public final class ModelTest {
    private static long seed;
    private static int wrong = 0;

    private static int draw(int below) {
        seed = seed * 6364136223846793005L + 1442695040888963407L;
        return (int) ((seed >>> 33) % below);
    }

    private static int any(int... of) {
        return of[draw(of.length)];
    }

    private static final String[] CHANGES = {"pane", "looker", "stands", "stands", "stands", "stands", "wall", "worth",
        "law", "days", "back", "image", "restore", "row", "feed"};

    /** A number that mostly fits where it stands, and at times does not. */
    private static int number(String call, int place) {
        if (draw(60) == 0) {
            return any(-1, -2, 5, 6, 8, 9, 10, 24, 99, 100, 256, 999, 1000, Integer.MIN_VALUE, Integer.MAX_VALUE);
        }
        switch (call + place) {
            case "pane0": return draw(256);
            case "looker0": return draw(6);
            case "looker1": return draw(10);
            case "stands1": return draw(12);
            case "stands2": return 8 + draw(16);
            case "stands3": return any(0, 1, 2, 3, 4, 5, 9);
            case "roster1": case "bestPane1": case "two2": return draw(24);
            case "wall0": case "paneOf0": case "newcomer1": return draw(7);
            case "wall1": case "worth0": case "counts1": case "owner0": case "from1": case "lost0": case "moreHours1":
            case "shown0": case "share1": case "ill1": case "heir1": case "rank0": case "gap0": case "judge0":
                return draw(8);
            case "worth1": return draw(10);
            case "law0": return draw(3);
            case "days0": return any(1, 2, 3, 7, 30, 99);
            case "owner1": case "nobodys0": case "owns1": case "richest0": case "staredOut2": case "moreHours2":
            case "bestPane2": case "freeHours1": case "walls1": case "two3": case "whichKind1": case "swap0":
            case "heir2": case "even0": case "joint2": case "gap1": case "bestLaw1":
                return draw(6) == 0 ? draw(1000) : draw(40);
            case "lookerOf1": return draw(4);
            case "share2": case "ill4": case "counts2": case "owns2": case "richest1": case "bestPane3": case "walls2":
            case "whichKind2": case "paneOf1": case "busy0": case "wasted1": case "newcomer2": case "mostSeen0":
            case "lots2": return draw(2);
            case "ill2": return draw(9);
            case "ill3": return 2 + draw(19);
            case "newcomer0": return draw(6);
            case "row0": return any(0, 0, 1, 2, 3, 4, 99, 99, draw(100));
            case "lots0": return 1 + draw(4);
            case "lots1": return draw(Integer.MAX_VALUE) * any(1, -1);
            case "count0": return draw(18);
            case "feed0": return any('p', 'l', 's', ';', '0', draw(256));
            default: return draw(5);
        }
    }

    private static int[] numbers(Method m) {
        int[] a = new int[5];
        for (int i = 0; i < m.getParameterCount(); i++) {
            a[i] = number(m.getName(), i);
        }
        return a;
    }

    private static long ask(WindowTaken x, Method m, int[] a) throws ReflectiveOperationException {
        Object[] args = new Object[m.getParameterCount()];
        for (int i = 0; i < args.length; i++) {
            args[i] = a[i];
        }
        return ((Number) m.invoke(x, args)).longValue();
    }

    private static void compare(int run, WindowTaken x, SlowModel y, Method m, int[] a)
            throws ReflectiveOperationException {
        long got = ask(x, m, a);
        long want = y.call(m.getName(), a[0], a[1], a[2], a[3], a[4]);
        if (got != want && wrong++ < 20) {
            System.out.println("run " + run + ": " + m.getName() + " " + a[0] + " " + a[1] + " " + a[2] + " " + a[3]
                + " " + a[4] + " answered " + got + ", due is " + want);
        }
    }

    private static String statement() {
        switch (draw(12)) {
            case 0: return String.format("p%03d;", draw(260));
            case 1: return "l" + draw(6) + draw(10) + ";";
            case 2: case 3: case 4: return String.format("s%d%02d%02d%d;", draw(5), draw(13), 8 + draw(16), any(0, 1, 2, 9));
            case 5: return "v" + draw(8) + draw(10) + ";";
            case 6: return "w" + draw(3) + draw(8) + ";";
            case 7: return "u" + draw(3) + ";";
            case 8: return String.format("d%02d;", 1 + draw(61));
            case 9: return draw(8) == 0 ? "d00;" : "v00;";
            case 10: return draw(8) == 0 ? any(0, 1) == 0 ? "p12" : "x;" : "u0;";
            default: return draw(6) == 0 ? "s0120;" : "w00;";
        }
    }

    private static void tell(int run, WindowTaken x, SlowModel y, Method feed, Method terrace, boolean opening)
            throws ReflectiveOperationException {
        StringBuilder text = new StringBuilder(opening ? "p" + String.format("%03d;", draw(256)) + "p"
            + String.format("%03d;", draw(256)) + "l" + draw(6) + draw(10) + ";l" + draw(6) + draw(10) + ";" : "");
        for (int i = draw(7); i >= 0; i--) {
            text.append(statement());
        }
        for (int i = 0; i < text.length(); i++) {
            compare(run, x, y, feed, new int[] {text.charAt(i), 0, 0, 0, 0});
        }
        compare(run, x, y, terrace, new int[5]);
    }

    public static void main(String[] args) throws ReflectiveOperationException {
        List<Method> methods = new ArrayList<>();
        for (Method m : WindowTaken.class.getMethods()) {
            if (m.getDeclaringClass() == WindowTaken.class) {
                methods.add(m);
            }
        }
        methods.sort(Comparator.comparing(Method::getName));
        for (int run = 1; run <= 400; run++) {
            seed = run * 7919L;
            WindowTaken x = new WindowTaken();
            SlowModel y = new SlowModel();
            if (draw(10) != 0) {
                tell(run, x, y, named(methods, "feed"), named(methods, "terrace"), true);
            }
            for (int i = 0; i < 250; i++) {
                int kind = draw(50);
                if (kind == 0) {
                    tell(run, x, y, named(methods, "feed"), named(methods, "terrace"), false);
                } else {
                    Method m = kind < 18 ? named(methods, any2(CHANGES)) : methods.get(draw(methods.size()));
                    compare(run, x, y, m, numbers(m));
                }
            }
        }
        System.out.println(wrong == 0 ? "all runs are as the model's" : wrong + " answers are not as the model's");
        if (wrong != 0) {
            System.exit(1);
        }
    }

    private static String any2(String[] of) {
        return of[draw(of.length)];
    }

    private static Method named(List<Method> methods, String name) {
        for (Method m : methods) {
            if (m.getName().equals(name)) {
                return m;
            }
        }
        throw new IllegalStateException("no method " + name);
    }
}
