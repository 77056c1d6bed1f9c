import java.util.ArrayList;
import java.util.List;

/**
 * Each call with every combination of numbers at and beyond its bounds: which number it refuses by is told here once
 * more, from the document's "Promise n" lines; a refusal is counted once, under its number, and changes nothing else.
 */
public final class RefusalsTest {
    private static final int MIN = Integer.MIN_VALUE;
    private static final int MAX = Integer.MAX_VALUE;
    private static final int PANES = 2;
    private static final int LOOKERS = 3;
    private static final int BATCH = 24;

    /** Numbers at the bounds, by the letter that a call's form has in their place. */
    private static int[] edges(char kind) {
        switch (kind) {
            case 'L': return new int[] {MIN, -1, 0, 1, 2, 3, 5, MAX};
            case 'V': return new int[] {MIN, -1, 0, 7, 8, MAX};
            case 'P': return new int[] {MIN, -1, 0, 1, 2, 5, 6, 9, MAX};
            case 'H': return new int[] {MIN, -1, 0, 5, 23, 24, MAX};
            case 'n': return new int[] {MIN, -1, 0, 1, 999, 1000, MAX};
            case 'w': return new int[] {MIN, -1, 0, 1, 2, 3, 4, MAX};
            case 'K': return new int[] {MIN, -1, 0, 5, 6, MAX};
            case 'i': return new int[] {MIN, -1, 0, 8, 9, MAX};
            case 't': return new int[] {MIN, 0, 1, 2, 20, 21, MAX};
            case 'f': return new int[] {MIN, -1, 0, 9, 10, MAX};
            case 'b': return new int[] {MIN, -1, 0, 255, 256, MAX};
            case 'd': return new int[] {MIN, -1, 0, 1, 99, 100, MAX};
            case 'y': return new int[] {MIN, -1, 0, 1, 20, 21, MAX};
            case 'z': return new int[] {MIN, -1, 0, MAX};
            default: throw new IllegalStateException("no kind " + kind);
        }
    }

    private static final String[] FORMS = {"feed b", "paneOf Pw", "lookerOf Lw", "pane b", "looker Kf", "stands LHHP",
        "roster LH", "wall PV", "worth Vf", "law w", "days d", "counts LVw", "owner Vn", "owns Lnw", "nobodys n",
        "from LV", "lost V", "richest nw", "staredOut LLn", "moreHours LVn", "bestPane LHnw", "freeHours Ln", "shown V",
        "walls Lnw", "share LVw", "two LLHn", "whichKind Lnw", "ill LVitw", "busy w", "together LL", "swap n",
        "heir LVn", "even n", "joint LLn", "rank Vn", "gap Vn", "wasted Lw", "ahead LL", "bestLaw Ln", "newcomer KPw",
        "mostSeen w", "duels LL", "row d", "judge V", "lots yzw", "count w", "terrace ", "back ", "cover ", "whichLaw ",
        "last ", "clear ", "image ", "restore "};

    private static int wrong = 0;
    private static int asked = 0;

    private static boolean view(int v) {
        return v >= 0 && v <= 7;
    }

    private static boolean looker(int l) {
        return l >= 0 && l < LOOKERS;
    }

    private static boolean two(int one, int other) {
        return looker(one) && looker(other) && one != other;
    }

    private static boolean pane(int p) {
        return p >= 0 && p < PANES;
    }

    private static boolean hour(int h) {
        return h >= 0 && h <= 23;
    }

    /** The first that fits: -1 if not so, -4, -6 by bounds, -2 for a what of so many; 0 for none. */
    private static int no(boolean there, int n, int least, int most, int what, int whats) {
        return !there ? -1 : n < least ? -4 : n > most ? -6 : what < 0 || what >= whats ? -2 : 0;
    }

    private static int no(boolean there, int n) {
        return no(there, n, 0, 999, 0, 1);
    }

    private static int no(boolean there) {
        return there ? 0 : -1;
    }

    private static int other(boolean there, int what, int whats) {
        return no(there, 0, 0, 0, what, whats);
    }

    private static int due(String name, int[] a) {
        switch (name) {
            case "feed": return no(true, a[0], 0, 255, 0, 1);
            case "paneOf": return other(pane(a[0]), a[1], 2);
            case "lookerOf": return other(looker(a[0]), a[1], 4);
            case "pane": return no(true, a[0], 0, 255, 0, 1);
            case "looker": return a[0] < 0 || a[0] > 5 ? -2 : no(true, a[1], 0, 9, 0, 1);
            case "stands": return !looker(a[0]) || !hour(a[1]) || !hour(a[2]) || !pane(a[3]) && a[3] != 9 ? -1
                : a[1] > a[2] ? -3 : 0;
            case "roster": return no(looker(a[0]) && hour(a[1]));
            case "wall": return no(pane(a[0]) && view(a[1]));
            case "worth": return no(view(a[0]), a[1], 0, 9, 0, 1);
            case "law": return other(true, a[0], 3);
            case "days": return no(true, a[0], 1, 99, 0, 1);
            case "counts": case "share": return other(looker(a[0]) && view(a[1]), a[2], 2);
            case "owner": case "gap": return no(view(a[0]), a[1]);
            case "owns": case "walls": case "whichKind": return no(looker(a[0]), a[1], 0, 999, a[2], 2);
            case "nobodys": case "swap": case "even": return no(true, a[0]);
            case "from": return no(looker(a[0]) && view(a[1]));
            case "lost": return !view(a[0]) ? -1 : a[0] == 7 ? -3 : 0;
            case "richest": return no(true, a[0], 0, 999, a[1], 2);
            case "staredOut": case "joint": return no(two(a[0], a[1]), a[2]);
            case "moreHours": return no(looker(a[0]) && view(a[1]), a[2], 1, 999, 0, 1);
            case "bestPane": return no(looker(a[0]) && hour(a[1]), a[2], 0, 999, a[3], 2);
            case "freeHours": case "bestLaw": return no(looker(a[0]), a[1]);
            case "shown": case "judge": return no(view(a[0]));
            case "two": return no(two(a[0], a[1]) && hour(a[2]), a[3]);
            case "ill": return !looker(a[0]) || !view(a[1]) ? -1 : a[2] < 0 || a[3] < 2 ? -4
                : a[2] > 8 || a[3] > 20 ? -6 : other(true, a[4], 2);
            case "busy": case "mostSeen": return other(true, a[0], 2);
            case "together": case "ahead": case "duels": return no(two(a[0], a[1]));
            case "heir": return no(looker(a[0]) && view(a[1]), a[2]);
            case "rank": return no(view(a[0]), a[1], 0, MAX, 0, 1);
            case "wasted": return other(looker(a[0]), a[1], 2);
            case "newcomer": return !pane(a[1]) ? -1 : a[0] < 0 || a[0] > 5 ? -2 : other(true, a[2], 2);
            case "row": return no(true, a[0], 0, 99, 0, 1);
            case "lots": return no(true, a[0], 1, 20, a[2], 2);
            default: return 0;
        }
    }

    /** Two panes, three lookers, days gone, an image, three to take back, a row, letters; nobody owns view 7. */
    private static Calls.Used built() {
        Calls.Used x = new Calls.Used();
        x.tell("p003;p070;l07;l13;l34;s004111;s109150;s216210;v15;d02;");
        x.ask("image");
        x.ask("stands", 1, 3, 4, 1);
        x.ask("wall", 0, 5);
        x.ask("wall", 1, 4);
        x.ask("row", 0);
        x.ask("row", 99);
        x.ask("feed", 'u');
        return x;
    }

    private static void compare(String what, Object got, Object want) {
        if (!got.equals(want) && wrong++ < 20) {
            System.out.println(what + ": " + got + ", due is " + want);
        }
    }

    /** All combinations of a form's edges, one after the other. */
    private static List<int[]> combinations(String kinds) {
        List<int[]> all = new ArrayList<>();
        all.add(new int[0]);
        for (char kind : kinds.toCharArray()) {
            List<int[]> more = new ArrayList<>();
            for (int[] start : all) {
                for (int edge : edges(kind)) {
                    int[] one = java.util.Arrays.copyOf(start, start.length + 1);
                    one[start.length] = edge;
                    more.add(one);
                }
            }
            all = more;
        }
        return all;
    }

    private static String told(String name, int[] a) {
        return name + java.util.Arrays.toString(a);
    }

    /** A call that is not refused answers no refusal, and counts none; what was asked ahead of it makes no difference. */
    private static void taken(String name, int[] a) {
        Calls.Used x = built();
        long answer = x.ask(name, a);
        Calls.Used asked = built();
        asked.ask("counts", 0, 0, 1);
        asked.ask("lots", 3, 5, 0);
        asked.ask("whichKind", 0, 3, 0);
        asked.ask("swap", 4);
        asked.ask("last");
        compare(told(name, a) + " behind other questions", asked.ask(name, a), answer);
        boolean fault = name.equals("terrace");
        compare(told(name, a) + " refuses", fault ? 0 : Calls.refusal(answer), 0);
        for (long refused : Calls.refusals(x)) {
            compare(told(name, a) + " counts a refusal", refused, 0L);
        }
    }

    /** Calls that are refused: each answers and counts its number; all together change nothing. */
    private static void refused(String name, List<int[]> calls, boolean answersLong, String portrait) {
        Calls.Used x = built();
        long[] counted = new long[7];
        for (int[] a : calls) {
            int no = due(name, a);
            compare(told(name, a), x.ask(name, a), answersLong ? 4000000000000000000L - no : (long) no);
            counted[-no]++;
            compare(told(name, a) + " is counted", x.ask("count", 10 - no), counted[-no]);
        }
        for (int no = 1; no <= 6; no++) {
            compare(name + ", refusals -" + no, x.ask("count", 10 + no), counted[no]);
        }
        compare("behind refused calls of " + name, Calls.portrait(x), portrait);
    }

    private static void all(String name, String kinds, String portrait) {
        boolean answersLong = name.equals("share") || name.equals("ill");
        List<int[]> batch = new ArrayList<>();
        for (int[] a : combinations(kinds)) {
            asked++;
            if (due(name, a) == 0) {
                taken(name, a);
            } else {
                batch.add(a);
            }
            if (batch.size() == BATCH) {
                refused(name, batch, answersLong, portrait);
                batch.clear();
            }
        }
        refused(name, batch, answersLong, portrait);
    }

    public static void main(String[] args) {
        String portrait = Calls.portrait(built());
        for (String form : FORMS) {
            String[] parts = form.split(" ", 2);
            all(parts[0], parts[1], portrait);
        }
        System.out.println(wrong == 0 ? asked + " calls are refused or taken as told" : wrong + " are not as told");
        if (wrong != 0) {
            System.exit(1);
        }
    }
}
