import java.util.ArrayList;
import java.util.List;
import java.util.TreeMap;
import java.util.function.IntPredicate;
import java.util.regex.Matcher;
import java.util.regex.Pattern;

/** The document once more, told slowly: copies of all that there is, days gone one by one, no rows used again. */
final class SlowModel {
    static final class Person {
        int kind;
        int figure;
        Integer[] roster = new Integer[24];
        int[] seen = new int[8];
    }

    /** All that there is of part I. */
    static final class Place {
        List<boolean[]> panes = new ArrayList<>();
        List<Person> people = new ArrayList<>();
        int[] worth = {1, 1, 1, 1, 1, 1, 1, 1};
        int law = 0;
        int day = 0;

        Place copy() {
            Place c = new Place();
            for (boolean[] p : panes) {
                c.panes.add(p.clone());
            }
            for (Person p : people) {
                Person q = new Person();
                q.kind = p.kind;
                q.figure = p.figure;
                q.roster = p.roster.clone();
                q.seen = p.seen.clone();
                c.people.add(q);
            }
            c.worth = worth.clone();
            c.law = law;
            c.day = day;
            return c;
        }

        static int pull(int kind, int figure, int hour) {
            if (kind == 0) {
                return 1;
            } else if (kind == 1) {
                return hour < 6 || hour > 17 ? pull(0, figure, hour) : 2;
            } else if (kind == 2) {
                return hour - 8 == figure ? 5 : 0;
            } else if (kind == 3) {
                return (hour & 1) == 0 ? pull(0, figure, hour) : 0;
            } else if (kind == 4) {
                return pull(1, figure, hour) + figure / 3;
            }
            return pull(4, figure, hour) * (hour > 19 ? 2 : 1);
        }

        int[] brings(Person p) {
            int[] sum = new int[8];
            for (int hour = 0; hour < 24; hour++) {
                for (int v = 0; v < 8; v++) {
                    boolean sees = false;
                    if (p.kind == 2) {
                        for (boolean[] pane : panes) {
                            sees |= pane[v];
                        }
                    } else if (p.roster[hour] != null) {
                        sees = panes.get(p.roster[hour])[v];
                    }
                    if (sees) {
                        sum[v] += pull(p.kind, p.figure, hour);
                    }
                }
            }
            return sum;
        }

        /** Days go by one by one; answers itself. */
        Place gone(int n) {
            List<int[]> daily = new ArrayList<>();
            for (Person p : people) {
                daily.add(brings(p));
            }
            for (int d = 0; d < n; d++) {
                day++;
                for (int i = 0; i < people.size(); i++) {
                    for (int v = 0; v < 8; v++) {
                        people.get(i).seen[v] = Math.min(99999, people.get(i).seen[v] + daily.get(i)[v]);
                    }
                }
            }
            return this;
        }

        Place in(int n) {
            return copy().gone(n);
        }

        int owner(int v) {
            int most = people.stream().mapToInt(p -> p.seen[v]).max().orElse(0);
            long all = people.stream().mapToInt(p -> p.seen[v]).sum();
            long with = people.stream().filter(p -> p.seen[v] == most).count();
            if (most == 0 || law == 1 && with > 1 || law == 2 && 2L * most <= all) {
                return -9;
            }
            for (int i = 0; i < people.size(); i++) {
                if (people.get(i).seen[v] == most) {
                    return i;
                }
            }
            return -9;
        }

        int views(int i) {
            return bits(8, v -> owner(v) == i);
        }

        int worthOf(int i) {
            int sum = 0;
            for (int v = 0; v < 8; v++) {
                sum += owner(v) == i ? worth[v] : 0;
            }
            return sum;
        }

        int shown() {
            return bits(8, v -> panes.stream().anyMatch(p -> p[v]));
        }

        int richest() {
            int best = -9;
            for (int i = 0; i < people.size(); i++) {
                if (best == -9 || worthOf(i) > worthOf(best)) {
                    best = i;
                }
            }
            return best;
        }

        int hours(int i) {
            int sum = 0;
            for (Integer p : people.get(i).roster) {
                sum += p == null ? 0 : 1;
            }
            return sum;
        }
    }

    static int bits(int n, IntPredicate which) {
        int bits = 0;
        for (int i = 0; i < n; i++) {
            bits |= which.test(i) ? 1 << i : 0;
        }
        return bits;
    }

    Place now = new Place();
    Place image = null;
    List<Place> past = new ArrayList<>();
    String text = "";
    List<Integer> row = new ArrayList<>();
    int[] refused = new int[7];

    // Refusals are tested in their order; the answer is found behind them.

    private int no = 0;

    private SlowModel calls() {
        no = 0;
        return this;
    }

    private SlowModel refuseIf(boolean so, int number) {
        if (no == 0 && so) {
            no = number;
            refused[-number]++;
        }
        return this;
    }

    private boolean badView(int v) {
        return v < 0 || v > 7;
    }

    private boolean badHour(int h) {
        return h < 0 || h > 23;
    }

    private boolean badPane(int p) {
        return p < 0 || p >= now.panes.size();
    }

    private boolean bad(int l) {
        return l < 0 || l >= now.people.size();
    }

    private boolean badTwo(int one, int other) {
        return bad(one) || bad(other) || one == other;
    }

    private SlowModel far(int n, int least) {
        return refuseIf(n < least, -4).refuseIf(n > 999, -6);
    }

    private SlowModel twoWhats(int what) {
        return refuseIf(what != 0 && what != 1, -2);
    }

    private void step() {
        past.add(now.copy());
        if (past.size() > 8) {
            past.remove(0);
        }
    }

    // The calls, by the document's names.

    long call(String name, int a, int b, int c, int d, int e) {
        calls();
        switch (name) {
            case "feed": return feed(a);
            case "terrace": return terrace();
            case "paneOf": return paneOf(a, b);
            case "lookerOf": return lookerOf(a, b);
            case "pane": return pane(a);
            case "looker": return looker(a, b);
            case "stands": return stands(a, b, c, d);
            case "roster": return refuseIf(bad(a) || badHour(b), -1).no != 0 ? no
                : now.people.get(a).roster[b] == null ? -9 : now.people.get(a).roster[b];
            case "wall": return wall(a, b);
            case "worth": return worth(a, b);
            case "law": return law(a);
            case "days": return days(a);
            case "back": return back();
            case "counts": return counts(a, b, c);
            case "owner": return refuseIf(badView(a), -1).far(b, 0).no != 0 ? no : now.in(b).owner(a);
            case "owns": return refuseIf(bad(a), -1).far(b, 0).twoWhats(c).no != 0 ? no
                : c == 0 ? now.in(b).views(a) : now.in(b).worthOf(a);
            case "nobodys": return far(a, 0).no != 0 ? no : now.in(a).views(-9);
            case "from": return refuseIf(bad(a) || badView(b), -1).no != 0 ? no : firstDay(0, p -> p.owner(b) == a);
            case "lost": return lost(a);
            case "richest": return richest(a, b);
            case "staredOut": return refuseIf(badTwo(a, b), -1).far(c, 0).no != 0 ? no
                : now.views(a) & now.in(c).views(b);
            case "moreHours": return moreHours(a, b, c);
            case "bestPane": return bestPane(a, b, c, d);
            case "freeHours": return freeHours(a, b);
            case "cover": return cover();
            case "shown": return refuseIf(badView(a), -1).no != 0 ? no
                : now.panes.stream().filter(p -> p[a]).count();
            case "walls": return walls(a, b, c);
            case "share": return share(a, b, c);
            case "two": return two(a, b, c, d);
            case "whichLaw": return whichLaw();
            case "whichKind": return whichKind(a, b, c);
            case "ill": return ill(a, b, c, d, e);
            default: return more(name, a, b, c);
        }
    }

    private long more(String name, int a, int b, int c) {
        switch (name) {
            case "busy": return busy(a);
            case "together": return refuseIf(badTwo(a, b), -1).no != 0 ? no : bits(24, h ->
                now.people.get(a).roster[h] != null && now.people.get(a).roster[h].equals(now.people.get(b).roster[h]));
            case "swap": return swap(a);
            case "heir": return heir(a, b, c);
            case "even": return even(a);
            case "last": return last();
            case "joint": return joint(a, b, c);
            case "rank": return rank(a, b);
            case "gap": return gap(a, b);
            case "wasted": return refuseIf(bad(a), -1).twoWhats(b).no != 0 ? no : bits(24, h ->
                (now.people.get(a).roster[h] != null) == (b == 0)
                && (Place.pull(now.people.get(a).kind, now.people.get(a).figure, h) == 0) == (b == 0));
            case "ahead": return refuseIf(badTwo(a, b), -1).no != 0 ? no
                : firstDay(0, p -> p.worthOf(a) > p.worthOf(b));
            case "bestLaw": return bestLaw(a, b);
            case "newcomer": return newcomer(a, b, c);
            case "mostSeen": return mostSeen(a);
            case "duels": return refuseIf(badTwo(a, b), -1).no != 0 ? no : Integer.bitCount(bits(8, v ->
                now.brings(now.people.get(a))[v] > 0 && now.brings(now.people.get(b))[v] > 0));
            case "row": return row(a);
            case "judge": return judge(a);
            case "clear": return clear();
            case "lots": return lots(a, b, c);
            case "image": image = now.copy();
                return now.day;
            case "restore": return restore();
            default: return count(a);
        }
    }

    private long feed(int letter) {
        if (refuseIf(letter < 0, -4).refuseIf(letter > 255 || text.length() == 96, -6).no != 0) {
            return no;
        }
        text += (char) letter;
        return text.length();
    }

    private static final String[] FORMS = {"pddd;", "ldd;", "sdddddd;", "vdd;", "wdd;", "ud;", "ddd;"};

    private static boolean fitsForm(String part, String form) {
        for (int i = 0; i < part.length(); i++) {
            boolean digit = form.charAt(i) == 'd' && i > 0;
            if (digit ? part.charAt(i) < '0' || part.charAt(i) > '9' : part.charAt(i) != form.charAt(i)) {
                return false;
            }
        }
        return true;
    }

    /** Whether some terrace begins with a text. */
    private static boolean canGoOn(String text) {
        Matcher whole = Pattern.compile("^(?:p[0-9]{3};|[lvwd][0-9]{2};|s[0-9]{6};|u[0-9];)*").matcher(text);
        String rest = whole.find() ? text.substring(whole.end()) : text;
        for (String form : FORMS) {
            if (rest.length() < form.length() && fitsForm(rest, form)) {
                return true;
            }
        }
        return rest.isEmpty();
    }

    private long terrace() {
        String t = text;
        text = "";
        for (int i = 0; i < t.length(); i++) {
            if (!canGoOn(t.substring(0, i + 1))) {
                return -1000 - i;
            }
        }
        if (!t.endsWith(";")) {
            return -1000 - t.length();
        }
        SlowModel trial = new SlowModel();
        trial.now = now.copy();
        int place = 0;
        for (String s : t.split(";")) {
            if (!trial.statement(s)) {
                return -2000 - place;
            }
            place += s.length() + 1;
        }
        now = trial.now;
        past.clear();
        return t.split(";").length;
    }

    private boolean statement(String s) {
        int[] d = new int[7];
        for (int i = 1; i < s.length(); i++) {
            d[i] = s.charAt(i) - '0';
        }
        switch (s.charAt(0)) {
            case 'p': return call("pane", Integer.parseInt(s.substring(1)), 0, 0, 0, 0) >= 0;
            case 'l': return call("looker", d[1], d[2], 0, 0, 0) >= 0;
            case 's': return call("stands", d[1], 10 * d[2] + d[3], 10 * d[4] + d[5], d[6], 0) >= 0;
            case 'v': return call("worth", d[1], d[2], 0, 0, 0) >= 0;
            case 'w': return call("wall", d[1], d[2], 0, 0, 0) >= 0;
            case 'u': return call("law", d[1], 0, 0, 0, 0) >= 0;
            default: return 10 * d[1] + d[2] <= 60 && call("days", 10 * d[1] + d[2], 0, 0, 0, 0) >= 0;
        }
    }

    private long paneOf(int pane, int what) {
        if (refuseIf(badPane(pane), -1).twoWhats(what).no != 0) {
            return no;
        }
        if (what == 0) {
            return bits(8, v -> now.panes.get(pane)[v]);
        }
        long sum = 0;
        for (Person p : now.people) {
            sum += Integer.bitCount(bits(24, h -> p.roster[h] != null && p.roster[h] == pane));
        }
        return sum;
    }

    private long lookerOf(int looker, int what) {
        if (refuseIf(bad(looker), -1).refuseIf(what < 0 || what > 3, -2).no != 0) {
            return no;
        }
        Person p = now.people.get(looker);
        return new long[] {p.kind, p.figure, now.hours(looker), now.views(looker)}[what];
    }

    private long pane(int views) {
        if (refuseIf(views < 0, -4).refuseIf(views > 255 || now.panes.size() == 6, -6).no != 0) {
            return no;
        }
        boolean[] shows = new boolean[8];
        for (int v = 0; v < 8; v++) {
            shows[v] = (views & 1 << v) != 0;
        }
        now.panes.add(shows);
        past.clear();
        return now.panes.size() - 1;
    }

    private long looker(int kind, int figure) {
        if (refuseIf(kind < 0 || kind > 5, -2).refuseIf(figure < 0, -4)
                .refuseIf(figure > 9 || now.people.size() == 5, -6).no != 0) {
            return no;
        }
        Person p = new Person();
        p.kind = kind;
        p.figure = figure;
        now.people.add(p);
        past.clear();
        return now.people.size() - 1;
    }

    private long stands(int looker, int from, int to, int pane) {
        if (refuseIf(bad(looker) || badHour(from) || badHour(to) || badPane(pane) && pane != 9, -1)
                .refuseIf(from > to, -3).no != 0) {
            return no;
        }
        step();
        for (int h = from; h <= to; h++) {
            now.people.get(looker).roster[h] = pane == 9 ? null : Integer.valueOf(pane);
        }
        return now.hours(looker);
    }

    private long wall(int pane, int view) {
        if (refuseIf(badPane(pane) || badView(view), -1).no != 0) {
            return no;
        }
        step();
        now.panes.get(pane)[view] = !now.panes.get(pane)[view];
        return now.panes.get(pane)[view] ? 1 : 0;
    }

    private long worth(int view, int v) {
        if (refuseIf(badView(view), -1).refuseIf(v < 0, -4).refuseIf(v > 9, -6).no != 0) {
            return no;
        }
        step();
        int was = now.worth[view];
        now.worth[view] = v;
        return was;
    }

    private long law(int v) {
        if (refuseIf(v < 0 || v > 2, -2).no != 0) {
            return no;
        }
        step();
        int was = now.law;
        now.law = v;
        return was;
    }

    private long days(int n) {
        if (refuseIf(n < 1, -4).refuseIf(n > 99 || (long) now.day + n > 9999, -6).no != 0) {
            return no;
        }
        now.gone(n);
        past.clear();
        return 8 - Integer.bitCount(now.views(-9));
    }

    private long back() {
        if (refuseIf(past.isEmpty(), -3).no != 0) {
            return no;
        }
        now = past.remove(past.size() - 1);
        return past.size();
    }

    private long counts(int looker, int view, int what) {
        if (refuseIf(bad(looker) || badView(view), -1).twoWhats(what).no != 0) {
            return no;
        }
        Person p = now.people.get(looker);
        return what == 0 ? p.seen[view] : now.brings(p)[view];
    }

    private interface Holds {
        boolean of(Place p);
    }

    /** The first day from one on of which something holds. */
    private long firstDay(int from, Holds what) {
        Place p = now.in(from);
        List<int[]> daily = new ArrayList<>();
        for (Person q : p.people) {
            daily.add(p.brings(q));
        }
        for (int n = from; n <= 999; n++) {
            if (what.of(p)) {
                return n;
            }
            for (int i = 0; i < p.people.size(); i++) {
                for (int v = 0; v < 8; v++) {
                    p.people.get(i).seen[v] = Math.min(99999, p.people.get(i).seen[v] + daily.get(i)[v]);
                }
            }
        }
        return -9;
    }

    private long lost(int view) {
        if (refuseIf(badView(view), -1).no == 0 && refuseIf(now.owner(view) == -9, -3).no == 0) {
            return firstDay(1, p -> p.owner(view) != now.owner(view));
        }
        return no;
    }

    private long richest(int n, int what) {
        if (far(n, 0).twoWhats(what).no != 0) {
            return no;
        }
        Place p = now.in(n);
        return what == 0 || p.richest() == -9 ? p.richest() : p.worthOf(p.richest());
    }

    private long moreHours(int looker, int view, int n) {
        if (refuseIf(bad(looker) || badView(view), -1).far(n, 1).no != 0) {
            return no;
        }
        if (now.in(n).owner(view) == looker) {
            return 0;
        }
        // A pane more that shows the view alone does not help whom no pane helps.
        if ((now.shown() & 1 << view) == 0) {
            return -9;
        }
        Place p = now.copy();
        int where = 0;
        while (!p.panes.get(where)[view]) {
            where++;
        }
        Person q = p.people.get(looker);
        TreeMap<Integer, Integer> order = new TreeMap<>();
        for (int h = 0; h < 24; h++) {
            if (q.roster[h] == null) {
                order.put(100 * (50 - Place.pull(q.kind, q.figure, h)) + h, h);
            }
        }
        int stood = 0;
        for (int h : order.values()) {
            q.roster[h] = where;
            stood++;
            if (p.in(n).owner(view) == looker) {
                return stood;
            }
        }
        return -9;
    }

    private long bestPane(int looker, int hour, int n, int what) {
        if (refuseIf(bad(looker) || badHour(hour), -1).far(n, 0).twoWhats(what).no != 0) {
            return no;
        }
        Place p = now.copy();
        p.people.get(looker).roster[hour] = null;
        long best = 9;
        long most = p.in(n).worthOf(looker);
        for (int i = now.panes.size() - 1; i >= 0; i--) {
            p.people.get(looker).roster[hour] = i;
            long w = p.in(n).worthOf(looker);
            if (w >= most) {
                most = w;
                best = i;
            }
        }
        return what == 0 ? best : most;
    }

    private long freeHours(int looker, int n) {
        if (refuseIf(bad(looker), -1).far(n, 0).no != 0) {
            return no;
        }
        int due = now.in(n).views(looker);
        return bits(24, h -> {
            Place p = now.copy();
            Integer was = p.people.get(looker).roster[h];
            p.people.get(looker).roster[h] = null;
            return was != null && p.in(n).views(looker) == due;
        });
    }

    private long cover() {
        for (int size = 0; size <= 6; size++) {
            for (int set = 0; set < 1 << now.panes.size(); set++) {
                int panes = set;
                int views = bits(8, v -> {
                    boolean any = false;
                    for (int i = 0; i < now.panes.size(); i++) {
                        any |= (panes & 1 << i) != 0 && now.panes.get(i)[v];
                    }
                    return any;
                });
                if (Integer.bitCount(set) == size && views == now.shown()) {
                    return set;
                }
            }
        }
        throw new IllegalStateException("no cover");
    }

    private long walls(int looker, int n, int what) {
        if (refuseIf(bad(looker), -1).far(n, 0).twoWhats(what).no != 0) {
            return no;
        }
        int has = now.in(n).worthOf(looker);
        int best = -9;
        int most = -9;
        for (int where = 0; where < 10 * now.panes.size(); where++) {
            if (where % 10 < 8 && now.panes.get(where / 10)[where % 10]) {
                Place p = now.copy();
                p.panes.get(where / 10)[where % 10] = false;
                int taken = has - p.in(n).worthOf(looker);
                if (taken > Math.max(0, most)) {
                    most = taken;
                    best = where;
                }
            }
        }
        return what == 0 ? best : most;
    }

    private static long part(long above, long below, int part) {
        if (above == 0) {
            return part;
        }
        long g = java.math.BigInteger.valueOf(above).gcd(java.math.BigInteger.valueOf(below)).longValue();
        return part == 0 ? above / g : below / g;
    }

    private static long asLong(int no) {
        return 4000000000000000000L - no;
    }

    private long share(int looker, int view, int part) {
        if (refuseIf(bad(looker) || badView(view), -1).twoWhats(part).no != 0) {
            return asLong(no);
        }
        return part(now.people.get(looker).seen[view], now.people.stream().mapToInt(p -> p.seen[view]).sum(), part);
    }

    private long two(int one, int other, int hour, int n) {
        if (refuseIf(badTwo(one, other) || badHour(hour), -1).far(n, 0).no != 0) {
            return no;
        }
        int size = now.panes.size();
        int[][][] pays = new int[size][size][];
        for (int a = 0; a < size; a++) {
            for (int b = 0; b < size; b++) {
                Place p = now.copy();
                p.people.get(one).roster[hour] = a;
                p.people.get(other).roster[hour] = b;
                p.gone(n);
                pays[a][b] = new int[] {p.worthOf(one), p.worthOf(other)};
            }
        }
        for (int pair = 0; pair < size * size; pair++) {
            int a = pair / size;
            int b = pair % size;
            int better = 0;
            for (int c = 0; c < size; c++) {
                better += pays[c][b][0] > pays[a][b][0] || pays[a][c][1] > pays[a][b][1] ? 1 : 0;
            }
            if (better == 0) {
                return 10 * a + b;
            }
        }
        return -9;
    }

    private boolean rowTells(Place p) {
        boolean so = true;
        for (int v = 0; v < row.size(); v++) {
            so &= row.get(v) == (p.owner(v) == -9 ? 99 : p.owner(v));
        }
        return so;
    }

    private long whichLaw() {
        return refuseIf(row.size() > 8, -3).no != 0 ? no : bits(3, l -> {
            Place p = now.copy();
            p.law = l;
            return rowTells(p);
        });
    }

    private long whichKind(int looker, int n, int what) {
        if (refuseIf(bad(looker), -1).far(n, 0).twoWhats(what).refuseIf(row.size() > 8, -3).no != 0) {
            return no;
        }
        return bits(what == 0 ? 6 : 10, i -> {
            Place p = now.copy();
            Person q = p.people.get(looker);
            q.kind = what == 0 ? i : q.kind;
            q.figure = what == 0 ? q.figure : i;
            return rowTells(p.gone(n));
        });
    }

    private long ill(int looker, int view, int n, int t, int part) {
        if (refuseIf(bad(looker) || badView(view), -1).refuseIf(n < 0 || t < 2, -4)
                .refuseIf(n > 8 || t > 20, -6).twoWhats(part).no != 0) {
            return asLong(no);
        }
        long good = 0;
        long all = 1;
        for (int i = 0; i < n; i++) {
            all *= t;
        }
        int gain = now.brings(now.people.get(looker))[view];
        for (int days = 0; days < 1 << n; days++) {
            Place p = now.in(n);
            long odds = 1;
            int seen = now.people.get(looker).seen[view];
            for (int d = 0; d < n; d++) {
                boolean sick = (days & 1 << d) != 0;
                odds *= sick ? 1 : t - 1;
                seen = Math.min(99999, seen + (sick ? 0 : gain));
            }
            p.people.get(looker).seen[view] = seen;
            good += p.owner(view) == looker ? odds : 0;
        }
        return part(good, all, part);
    }

    private long busy(int what) {
        if (twoWhats(what).no != 0) {
            return no;
        }
        int[] standing = new int[24];
        int best = 0;
        for (int h = 0; h < 24; h++) {
            for (Person p : now.people) {
                standing[h] += p.roster[h] == null ? 0 : 1;
            }
            best = standing[h] > standing[best] ? h : best;
        }
        return what == 0 ? best : standing[best];
    }

    private long swap(int n) {
        if (far(n, 0).no != 0) {
            return no;
        }
        int best = -9;
        int most = -1;
        Place as = now.in(n);
        for (int pair = 0; pair < 50; pair++) {
            int i = pair / 10;
            int j = pair % 10;
            if (i < j && !bad(i) && !bad(j)) {
                Place p = now.copy();
                Integer[] first = p.people.get(i).roster;
                p.people.get(i).roster = p.people.get(j).roster;
                p.people.get(j).roster = first;
                p.gone(n);
                int both = p.worthOf(i) + p.worthOf(j);
                if (both > as.worthOf(i) + as.worthOf(j) && both > most) {
                    most = both;
                    best = pair;
                }
            }
        }
        return best;
    }

    private long heir(int looker, int view, int n) {
        if (refuseIf(bad(looker) || badView(view), -1).far(n, 0).no != 0) {
            return no;
        }
        Place p = now.copy();
        p.people.get(looker).roster = new Integer[24];
        p.people.get(looker).seen = new int[8];
        return p.gone(n).owner(view);
    }

    private long even(int n) {
        if (far(n, 0).no != 0) {
            return no;
        }
        Place p = now.in(n);
        int twos = 0;
        for (int i = 0; i < p.people.size(); i++) {
            for (int j = 0; j < i; j++) {
                twos += p.worthOf(i) == p.worthOf(j) ? 1 : 0;
            }
        }
        return twos;
    }

    private long last() {
        long[] state = {0, -1};
        String[] before = {null};
        firstDay(0, p -> {
            StringBuilder owners = new StringBuilder();
            for (int v = 0; v < 8; v++) {
                owners.append(p.owner(v)).append(' ');
            }
            state[1]++;
            if (!owners.toString().equals(before[0])) {
                state[0] = state[1];
            }
            before[0] = owners.toString();
            return false;
        });
        return state[0];
    }

    private long joint(int one, int other, int n) {
        if (refuseIf(badTwo(one, other), -1).far(n, 0).no != 0) {
            return no;
        }
        Place p = now.in(n);
        return bits(8, v -> {
            int sum = p.people.get(one).seen[v] + p.people.get(other).seen[v];
            boolean more = true;
            for (int i = 0; i < p.people.size(); i++) {
                more &= i == one || i == other || sum > p.people.get(i).seen[v];
            }
            return more;
        });
    }

    private List<Integer> ranked(Place p, int view) {
        List<Integer> order = new ArrayList<>();
        for (int i = 0; i < p.people.size(); i++) {
            order.add(i);
        }
        order.sort((i, j) -> p.people.get(j).seen[view] - p.people.get(i).seen[view]);
        return order;
    }

    private long rank(int view, int i) {
        if (refuseIf(badView(view), -1).refuseIf(i < 0, -4).no != 0) {
            return no;
        }
        return i < now.people.size() ? ranked(now, view).get(i) : -9;
    }

    private long gap(int view, int n) {
        if (refuseIf(badView(view), -1).far(n, 0).no != 0) {
            return no;
        }
        Place p = now.in(n);
        List<Integer> order = ranked(p, view);
        int first = order.isEmpty() ? 0 : p.people.get(order.get(0)).seen[view];
        return order.size() < 2 ? first : first - p.people.get(order.get(1)).seen[view];
    }

    private long bestLaw(int looker, int n) {
        if (refuseIf(bad(looker), -1).far(n, 0).no != 0) {
            return no;
        }
        int[] worth = new int[3];
        for (int l = 0; l < 3; l++) {
            Place p = now.in(n);
            p.law = l;
            worth[l] = p.worthOf(looker);
        }
        return worth[0] >= worth[1] && worth[0] >= worth[2] ? 0 : worth[1] >= worth[2] ? 1 : 2;
    }

    private long newcomer(int kind, int pane, int what) {
        if (refuseIf(badPane(pane), -1).refuseIf(kind < 0 || kind > 5, -2).twoWhats(what)
                .refuseIf(now.people.size() == 5, -3).no != 0) {
            return no;
        }
        SlowModel other = new SlowModel();
        other.now = now.copy();
        int who = (int) other.call("looker", kind, 5, 0, 0, 0);
        other.call("stands", who, 0, 23, pane, 0);
        long n = other.firstDay(0, p -> p.views(who) != 0);
        return what == 0 || n == -9 ? n : Integer.numberOfTrailingZeros(other.now.in((int) n).views(who));
    }

    private long mostSeen(int what) {
        if (twoWhats(what).no != 0) {
            return no;
        }
        int[] sum = new int[8];
        for (Person p : now.people) {
            for (int v = 0; v < 8; v++) {
                sum[v] += now.brings(p)[v];
            }
        }
        int best = 0;
        for (int v = 0; v < 8; v++) {
            best = sum[v] > sum[best] ? v : best;
        }
        return what == 0 ? best : sum[best];
    }

    private long row(int v) {
        if (refuseIf(v < 0, -4).refuseIf(v > 99 || row.size() == 12, -6).no != 0) {
            return no;
        }
        row.add(v);
        return row.size();
    }

    private long judge(int view) {
        if (refuseIf(badView(view), -1).no != 0) {
            return no;
        }
        int wrong = -9;
        for (int n = row.size() - 1; n >= 0; n--) {
            int owner = now.in(n).owner(view);
            wrong = row.get(n) != (owner == -9 ? 99 : owner) ? n : wrong;
        }
        row.clear();
        return wrong;
    }

    private long clear() {
        int had = row.size();
        row.clear();
        return had;
    }

    private int seed;

    private int draw(int below) {
        seed = (int) (seed * 1103515245L + 12345L);
        return ((seed & Integer.MAX_VALUE) >> 16) % below;
    }

    private long lots(int n, int z, int what) {
        if (refuseIf(n < 1, -4).refuseIf(n > 20, -6).twoWhats(what).no != 0) {
            return no;
        }
        seed = z;
        long sum = 0;
        for (int year = 0; year < n && !now.panes.isEmpty(); year++) {
            Place p = now.copy();
            for (Person q : p.people) {
                q.roster = new Integer[24];
                for (int i = 0; i < 4; i++) {
                    int from = draw(24);
                    int where = draw(p.panes.size());
                    for (int h = from; h < from + 4 && h < 24; h++) {
                        q.roster[h] = where;
                    }
                }
            }
            p.gone(99);
            sum += what == 0 ? 8 - Integer.bitCount(p.views(-9)) : p.people.isEmpty() ? 0 : p.worthOf(p.richest());
        }
        return sum;
    }

    private long restore() {
        if (refuseIf(image == null, -3).no != 0) {
            return no;
        }
        now = image.copy();
        past.clear();
        return now.day;
    }

    private long count(int what) {
        int hours = 0;
        for (int i = 0; i < now.people.size(); i++) {
            hours += now.hours(i);
        }
        if (what >= 11 && what <= 16) {
            return refused[what - 10];
        }
        long[] all = {now.panes.size(), now.people.size(), now.day, now.law,
            8 - Integer.bitCount(now.views(-9)), Integer.bitCount(now.shown()), hours,
            text.length(), row.size(), past.size()};
        return what >= 0 && what < 10 ? all[what] : -9;
    }
}
