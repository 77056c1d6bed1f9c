/** The window is taken by who looks out longest: panes, lookers, counts, a law, and what can be asked of them. */
public final class WindowTaken {
    private static final int VIEWS = 8;
    private static final int ALL_VIEWS = 255;
    private static final int HOURS = 24;
    private static final int PANES = 6;
    private static final int LOOKERS = 5;
    private static final int KINDS = 6;
    private static final int LAWS = 3;
    private static final int MOST_FIGURE = 9;
    private static final int MOST_WORTH = 9;
    private static final int MOST_COUNTS = 99999;
    private static final int MOST_DAY = 9999;
    private static final int MOST_DAYS = 99;
    private static final int MOST_TOLD_DAYS = 60;
    private static final int FAR = 999;
    private static final int NO_PANE = 9;

    private static final int LOOKER = 0;
    private static final int INVALID = 1;
    private static final int SWEEP = 2;
    private static final int CHILD = 3;
    private static final int SISTER = 4;
    private static final int STARER = 5;
    private static final int MOST_PULL = 10;

    private static final int FIRST_COME = 0;
    private static final int NO_TIES = 1;
    private static final int MORE_THAN_ALL = 2;

    private static final int LETTERS = 96;
    private static final int MOST_LETTER = 255;
    private static final int FAULT_OF_FORM = -1000;
    private static final int FAULT_OF_SENSE = -2000;

    private static final int ROW = 12;
    private static final int MOST_IN_ROW = 99;
    private static final int NOBODY_IN_ROW = 99;

    private static final int STEPS = 8;
    private static final int STOOD = 0;
    private static final int WALLED = 1;
    private static final int PRICED = 2;
    private static final int RULED = 3;

    private static final int MOST_ILL_DAYS = 8;
    private static final int MOST_ODDS = 20;
    private static final int MOST_YEARS = 20;
    private static final int LOTS_EACH = 4;
    private static final int NEWCOMERS_FIGURE = 5;

    private static final int NONE = -9;
    private static final int NOBODY = -1;
    private static final int OTHER = -2;
    private static final int STATE = -3;
    private static final int BELOW = -4;
    private static final int ROOM = -6;
    private static final int REFUSALS = 7;
    private static final long LONG_REFUSAL = 4000000000000000000L;

    private final House house;
    private final House mind;
    private final House kept;
    private boolean imageTaken;
    private final Steps steps;
    private final Letters letters;
    private final int[] rowNumbers;
    private int rowSize;
    private final int[] refusals;
    private final int[][] firstPays;
    private final int[][] otherPays;

    public WindowTaken() {
        house = new House();
        mind = new House();
        kept = new House();
        imageTaken = false;
        steps = new Steps();
        letters = new Letters();
        rowNumbers = new int[ROW];
        rowSize = 0;
        refusals = new int[REFUSALS];
        firstPays = new int[PANES][PANES];
        otherPays = new int[PANES][PANES];
    }

    // ---- refusals ----

    private int refuse(int number) {
        int at = -number;
        if (at >= 0 && at < REFUSALS) {
            refusals[at]++;
        }
        return number;
    }

    private long refuseLong(int number) {
        return LONG_REFUSAL - refuse(number);
    }

    /** Of two refusals (0 for none) the one that is told first. */
    private static int firstOf(int one, int next) {
        return one != 0 ? one : next;
    }

    private static int noView(int view) {
        return House.isView(view) ? 0 : NOBODY;
    }

    private static int noHour(int hour) {
        return House.isHour(hour) ? 0 : NOBODY;
    }

    private int noPane(int pane) {
        return house.isPane(pane) ? 0 : NOBODY;
    }

    private int noLooker(int looker) {
        return house.isLooker(looker) ? 0 : NOBODY;
    }

    private int noPair(int one, int other) {
        return house.isLooker(one) && house.isLooker(other) && one != other ? 0 : NOBODY;
    }

    private static int notBelow(int what, int kinds) {
        return what >= 0 && what < kinds ? 0 : OTHER;
    }

    private static int outside(int number, int least, int greatest) {
        if (number < least) {
            return BELOW;
        }
        return number > greatest ? ROOM : 0;
    }

    private int noLookerFar(int looker, int n) {
        return firstOf(noLooker(looker), outside(n, 0, FAR));
    }

    private int noPairFar(int one, int other, int n) {
        return firstOf(noPair(one, other), outside(n, 0, FAR));
    }

    private int longRow() {
        return rowSize > VIEWS ? STATE : 0;
    }

    // ---- I: what there is, and what changes it ----

    public int feed(int letter) {
        int no = outside(letter, 0, MOST_LETTER);
        if (no == 0 && letters.size >= LETTERS) {
            no = ROOM;
        }
        if (no != 0) {
            return refuse(no);
        }
        letters.add(letter);
        return letters.size;
    }

    public int terrace() {
        int answer = tellTerrace();
        letters.size = 0;
        return answer;
    }

    /** The terrace is told to the mind first: a fault must leave the house as it is. */
    private int tellTerrace() {
        int place = letters.faultOfForm();
        if (place >= 0) {
            return FAULT_OF_FORM - place;
        }
        mind.takeFrom(house);
        int statements = 0;
        place = 0;
        for (int i = 0; i < LETTERS && place < letters.size; i++) {
            if (!letters.tell(mind, place)) {
                return FAULT_OF_SENSE - place;
            }
            statements++;
            place = letters.behind(place);
        }
        house.takeFrom(mind);
        steps.forget();
        return statements;
    }

    public int paneOf(int pane, int what) {
        int no = firstOf(noPane(pane), notBelow(what, 2));
        if (no != 0) {
            return refuse(no);
        }
        return what == 0 ? house.paneViews[pane] : house.hoursAt(pane);
    }

    public int lookerOf(int looker, int what) {
        int no = firstOf(noLooker(looker), notBelow(what, 4));
        if (no != 0) {
            return refuse(no);
        }
        switch (what) {
            case 0:
                return house.kinds[looker];
            case 1:
                return house.figures[looker];
            case 2:
                return house.hoursOf(looker);
            default:
                house.reckon();
                return house.holdings(looker, 0);
        }
    }

    public int pane(int views) {
        int no = outside(views, 0, ALL_VIEWS);
        if (no == 0 && house.paneCount >= PANES) {
            no = ROOM;
        }
        if (no != 0) {
            return refuse(no);
        }
        house.addPane(views);
        steps.forget();
        return house.paneCount - 1;
    }

    public int looker(int kind, int figure) {
        int no = firstOf(notBelow(kind, KINDS), outside(figure, 0, MOST_FIGURE));
        if (no == 0 && house.lookerCount >= LOOKERS) {
            no = ROOM;
        }
        if (no != 0) {
            return refuse(no);
        }
        house.addLooker(kind, figure);
        steps.forget();
        return house.lookerCount - 1;
    }

    public int stands(int looker, int from, int to, int pane) {
        int no = firstOf(noLooker(looker), firstOf(noHour(from), noHour(to)));
        if (no == 0 && pane != NO_PANE) {
            no = noPane(pane);
        }
        if (no == 0 && from > to) {
            no = STATE;
        }
        if (no != 0) {
            return refuse(no);
        }
        steps.keepRoster(looker, house.rosters[looker]);
        house.post(looker, from, to, pane);
        return house.hoursOf(looker);
    }

    public int roster(int looker, int hour) {
        int no = firstOf(noLooker(looker), noHour(hour));
        if (no != 0) {
            return refuse(no);
        }
        int pane = house.rosters[looker][hour];
        return pane == NO_PANE ? NONE : pane;
    }

    public int wall(int pane, int view) {
        int no = firstOf(noPane(pane), noView(view));
        if (no != 0) {
            return refuse(no);
        }
        steps.keep(WALLED, pane, house.paneViews[pane]);
        house.flip(pane, view);
        return house.shows(pane, view) ? 1 : 0;
    }

    public int worth(int view, int v) {
        int no = firstOf(noView(view), outside(v, 0, MOST_WORTH));
        if (no != 0) {
            return refuse(no);
        }
        int was = house.worths[view];
        steps.keep(PRICED, view, was);
        house.price(view, v);
        return was;
    }

    public int law(int v) {
        int no = notBelow(v, LAWS);
        if (no != 0) {
            return refuse(no);
        }
        int was = house.law;
        steps.keep(RULED, 0, was);
        house.rule(v);
        return was;
    }

    public int days(int n) {
        int no = outside(n, 1, MOST_DAYS);
        if (no == 0 && house.day + n > MOST_DAY) {
            no = ROOM;
        }
        if (no != 0) {
            return refuse(no);
        }
        house.pass(n);
        steps.forget();
        return Integer.bitCount(house.held(0));
    }

    public int back() {
        if (steps.size == 0) {
            return refuse(STATE);
        }
        steps.undoLatest(house);
        return steps.size;
    }

    // ---- II: who owns what, now and in days to come ----

    public int counts(int looker, int view, int what) {
        int no = firstOf(firstOf(noLooker(looker), noView(view)), notBelow(what, 2));
        if (no != 0) {
            return refuse(no);
        }
        house.reckon();
        return what == 0 ? house.counts[looker][view] : house.gains[looker][view];
    }

    public int owner(int view, int n) {
        int no = firstOf(noView(view), outside(n, 0, FAR));
        if (no != 0) {
            return refuse(no);
        }
        house.reckon();
        return house.holder(view, n);
    }

    public int owns(int looker, int n, int what) {
        int no = firstOf(noLookerFar(looker, n), notBelow(what, 2));
        if (no != 0) {
            return refuse(no);
        }
        house.reckon();
        return what == 0 ? house.holdings(looker, n) : house.wealth(looker, n);
    }

    public int nobodys(int n) {
        int no = outside(n, 0, FAR);
        if (no != 0) {
            return refuse(no);
        }
        house.reckon();
        return ALL_VIEWS - house.held(n);
    }

    public int from(int looker, int view) {
        int no = firstOf(noLooker(looker), noView(view));
        if (no != 0) {
            return refuse(no);
        }
        house.reckon();
        for (int n = 0; n <= FAR; n++) {
            if (house.holder(view, n) == looker) {
                return n;
            }
        }
        return NONE;
    }

    public int lost(int view) {
        if (!House.isView(view)) {
            return refuse(NOBODY);
        }
        house.reckon();
        int holder = house.holder(view, 0);
        if (holder == NONE) {
            return refuse(STATE);
        }
        for (int n = 1; n <= FAR; n++) {
            if (house.holder(view, n) != holder) {
                return n;
            }
        }
        return NONE;
    }

    public int richest(int n, int what) {
        int no = firstOf(outside(n, 0, FAR), notBelow(what, 2));
        if (no != 0) {
            return refuse(no);
        }
        house.reckon();
        int best = house.wealthiest(n);
        return what == 0 || best == NONE ? best : house.wealth(best, n);
    }

    public int staredOut(int looker, int by, int n) {
        int no = noPairFar(looker, by, n);
        if (no != 0) {
            return refuse(no);
        }
        house.reckon();
        return house.holdings(looker, 0) & house.holdings(by, n);
    }

    public int moreHours(int looker, int view, int n) {
        int no = firstOf(firstOf(noLooker(looker), noView(view)), outside(n, 1, FAR));
        if (no != 0) {
            return refuse(no);
        }
        house.reckon();
        if (house.holder(view, n) == looker) {
            return 0;
        }
        if (house.timesShown(view) == 0 || house.kinds[looker] == SWEEP) {
            return NONE;
        }
        return hoursUntilOwned(looker, view, n);
    }

    /** Only the hours of this view matter to its owner: the mind's gain of it grows hour by hour, the strongest first. */
    private int hoursUntilOwned(int looker, int view, int n) {
        mind.takeFrom(house);
        mind.reckon();
        int stood = 0;
        for (int pull = MOST_PULL; pull > 0; pull--) {
            for (int hour = 0; hour < HOURS; hour++) {
                if (house.rosters[looker][hour] == NO_PANE && house.pull(looker, hour) == pull) {
                    mind.gains[looker][view] += pull;
                    stood++;
                    if (mind.holder(view, n) == looker) {
                        return stood;
                    }
                }
            }
        }
        return NONE;
    }

    public int bestPane(int looker, int hour, int n, int what) {
        int no = firstOf(firstOf(noLooker(looker), noHour(hour)), outside(n, 0, FAR));
        no = firstOf(no, notBelow(what, 2));
        if (no != 0) {
            return refuse(no);
        }
        mind.takeFrom(house);
        int best = NO_PANE;
        int most = -1;
        for (int i = 0; i <= house.paneCount; i++) {
            int pane = i < house.paneCount ? i : NO_PANE;
            int wealth = wealthAt(looker, hour, pane, n);
            if (wealth > most) {
                most = wealth;
                best = pane;
            }
        }
        return what == 0 ? best : most;
    }

    /** What one would own in the mind's house, stood at a pane for one hour. */
    private int wealthAt(int looker, int hour, int pane, int n) {
        mind.post(looker, hour, hour, pane);
        mind.reckon();
        return mind.wealth(looker, n);
    }

    public int freeHours(int looker, int n) {
        int no = noLookerFar(looker, n);
        if (no != 0) {
            return refuse(no);
        }
        house.reckon();
        mind.takeFrom(house);
        int due = house.holdings(looker, n);
        int bits = 0;
        for (int hour = 0; hour < HOURS; hour++) {
            int pane = house.rosters[looker][hour];
            if (pane != NO_PANE) {
                mind.post(looker, hour, hour, NO_PANE);
                mind.reckon();
                if (mind.holdings(looker, n) == due) {
                    bits |= 1 << hour;
                }
                mind.post(looker, hour, hour, pane);
            }
        }
        return bits;
    }

    public int cover() {
        int all = house.allShown();
        int best = (1 << house.paneCount) - 1;
        for (int panes = 0; panes < 1 << house.paneCount; panes++) {
            if (Integer.bitCount(panes) < Integer.bitCount(best) && house.shownBy(panes) == all) {
                best = panes;
            }
        }
        return best;
    }

    public int shown(int view) {
        if (!House.isView(view)) {
            return refuse(NOBODY);
        }
        return house.timesShown(view);
    }

    public int walls(int looker, int n, int what) {
        int no = firstOf(noLookerFar(looker, n), notBelow(what, 2));
        if (no != 0) {
            return refuse(no);
        }
        house.reckon();
        mind.takeFrom(house);
        int wealth = house.wealth(looker, n);
        int best = NONE;
        int most = 0;
        for (int pane = 0; pane < house.paneCount; pane++) {
            for (int view = 0; view < VIEWS; view++) {
                int taken = house.shows(pane, view) ? wealth - wealthWalled(looker, pane, view, n) : 0;
                if (taken > most) {
                    most = taken;
                    best = 10 * pane + view;
                }
            }
        }
        return what == 0 || best == NONE ? best : most;
    }

    private int wealthWalled(int looker, int pane, int view, int n) {
        mind.flip(pane, view);
        mind.reckon();
        int wealth = mind.wealth(looker, n);
        mind.flip(pane, view);
        return wealth;
    }

    public long share(int looker, int view, int part) {
        int no = firstOf(firstOf(noLooker(looker), noView(view)), notBelow(part, 2));
        if (no != 0) {
            return refuseLong(no);
        }
        long all = 0;
        for (int i = 0; i < house.lookerCount; i++) {
            all += house.counts[i][view];
        }
        return fraction(house.counts[looker][view], all, part);
    }

    public int two(int one, int other, int hour, int n) {
        int no = firstOf(firstOf(noPair(one, other), noHour(hour)), outside(n, 0, FAR));
        if (no != 0) {
            return refuse(no);
        }
        fillPays(one, other, hour, n);
        for (int first = 0; first < house.paneCount; first++) {
            for (int second = 0; second < house.paneCount; second++) {
                if (bothContent(first, second)) {
                    return 10 * first + second;
                }
            }
        }
        return NONE;
    }

    private void fillPays(int one, int other, int hour, int n) {
        mind.takeFrom(house);
        for (int first = 0; first < house.paneCount; first++) {
            mind.post(one, hour, hour, first);
            for (int second = 0; second < house.paneCount; second++) {
                mind.post(other, hour, hour, second);
                mind.reckon();
                firstPays[first][second] = mind.wealth(one, n);
                otherPays[first][second] = mind.wealth(other, n);
            }
        }
    }

    private boolean bothContent(int first, int second) {
        for (int pane = 0; pane < house.paneCount; pane++) {
            if (firstPays[pane][second] > firstPays[first][second]
                    || otherPays[first][pane] > otherPays[first][second]) {
                return false;
            }
        }
        return true;
    }

    public int whichLaw() {
        int no = longRow();
        if (no != 0) {
            return refuse(no);
        }
        mind.takeFrom(house);
        int bits = 0;
        for (int v = 0; v < LAWS; v++) {
            mind.rule(v);
            mind.reckon();
            if (rowTells(0)) {
                bits |= 1 << v;
            }
        }
        return bits;
    }

    /** Whether the row tells the owners of views 0, 1, .. in the mind's house. */
    private boolean rowTells(int n) {
        for (int view = 0; view < rowSize && view < VIEWS; view++) {
            if (rowNumbers[view] != inRow(mind.holder(view, n))) {
                return false;
            }
        }
        return true;
    }

    private static int inRow(int holder) {
        return holder == NONE ? NOBODY_IN_ROW : holder;
    }

    public int whichKind(int looker, int n, int what) {
        int no = firstOf(noLookerFar(looker, n), firstOf(notBelow(what, 2), longRow()));
        if (no != 0) {
            return refuse(no);
        }
        mind.takeFrom(house);
        int bits = 0;
        int most = what == 0 ? KINDS - 1 : MOST_FIGURE;
        for (int i = 0; i <= most; i++) {
            if (what == 0) {
                mind.kinds[looker] = i;
            } else {
                mind.figures[looker] = i;
            }
            mind.reckon();
            if (rowTells(n)) {
                bits |= 1 << i;
            }
        }
        return bits;
    }

    public long ill(int looker, int view, int n, int t, int part) {
        int no = firstOf(noLooker(looker), noView(view));
        if (no == 0 && (n < 0 || t < 2)) {
            no = BELOW;
        }
        if (no == 0 && (n > MOST_ILL_DAYS || t > MOST_ODDS)) {
            no = ROOM;
        }
        no = firstOf(no, notBelow(part, 2));
        if (no != 0) {
            return refuseLong(no);
        }
        house.reckon();
        mind.takeFrom(house);
        mind.reckon();
        long good = 0;
        long all = 1;
        long ways = 1;
        for (int well = 0; well <= n; well++) {
            if (ownsWell(looker, view, n, well)) {
                good += ways;
            }
            ways = ways * (n - well) / (well + 1) * (t - 1);
            all = well < n ? all * t : all;
        }
        return fraction(good, all, part);
    }

    /** Whether one owns a view behind n days of which he looks out on some only. */
    private boolean ownsWell(int looker, int view, int n, int well) {
        mind.counts[looker][view] = house.behind(looker, view, well);
        mind.gains[looker][view] = 0;
        return mind.holder(view, n) == looker;
    }

    /** A part (0 above, 1 below the line) of a fraction in lowest terms. */
    private static long fraction(long above, long below, int part) {
        if (above <= 0 || below <= 0) {
            return part == 0 ? 0 : 1;
        }
        long common = commonDivisor(above, below);
        if (common <= 0) {
            return part == 0 ? above : below;
        }
        return part == 0 ? above / common : below / common;
    }

    private static long commonDivisor(long one, long other) {
        long a = one;
        long b = other;
        for (int i = 0; i < 200 && b != 0; i++) {
            long rest = a % b;
            a = b;
            b = rest;
        }
        return a;
    }

    // ---- III: taken together ----

    public int busy(int what) {
        int no = notBelow(what, 2);
        if (no != 0) {
            return refuse(no);
        }
        int best = 0;
        int most = 0;
        for (int hour = 0; hour < HOURS; hour++) {
            int standing = house.standingIn(hour);
            if (standing > most) {
                most = standing;
                best = hour;
            }
        }
        return what == 0 ? best : most;
    }

    public int together(int one, int other) {
        int no = noPair(one, other);
        if (no != 0) {
            return refuse(no);
        }
        int bits = 0;
        for (int hour = 0; hour < HOURS; hour++) {
            int pane = house.rosters[one][hour];
            if (pane != NO_PANE && house.rosters[other][hour] == pane) {
                bits |= 1 << hour;
            }
        }
        return bits;
    }

    public int swap(int n) {
        int no = outside(n, 0, FAR);
        if (no != 0) {
            return refuse(no);
        }
        house.reckon();
        mind.takeFrom(house);
        int best = NONE;
        int most = -1;
        for (int one = 0; one < house.lookerCount; one++) {
            for (int other = one + 1; other < house.lookerCount; other++) {
                int wealth = wealthSwapped(one, other, n);
                int before = house.wealth(one, n) + house.wealth(other, n);
                if (wealth > before && wealth > most) {
                    most = wealth;
                    best = 10 * one + other;
                }
            }
        }
        return best;
    }

    private int wealthSwapped(int one, int other, int n) {
        mind.tradeRosters(one, other);
        mind.reckon();
        int wealth = mind.wealth(one, n) + mind.wealth(other, n);
        mind.tradeRosters(one, other);
        return wealth;
    }

    public int heir(int looker, int view, int n) {
        int no = firstOf(firstOf(noLooker(looker), noView(view)), outside(n, 0, FAR));
        if (no != 0) {
            return refuse(no);
        }
        mind.takeFrom(house);
        mind.post(looker, 0, HOURS - 1, NO_PANE);
        for (int i = 0; i < VIEWS; i++) {
            mind.counts[looker][i] = 0;
        }
        mind.reckon();
        return mind.holder(view, n);
    }

    public int even(int n) {
        int no = outside(n, 0, FAR);
        if (no != 0) {
            return refuse(no);
        }
        house.reckon();
        int pairs = 0;
        for (int one = 0; one < house.lookerCount; one++) {
            for (int other = one + 1; other < house.lookerCount; other++) {
                if (house.lead(one, other, n) == 0) {
                    pairs++;
                }
            }
        }
        return pairs;
    }

    /** Owners that stay through the last day are those of the last day: each view is followed back from there. */
    public int last() {
        house.reckon();
        int least = 0;
        for (int view = 0; view < VIEWS; view++) {
            int holder = house.holder(view, FAR);
            int n = FAR;
            while (n > least && house.holder(view, n - 1) == holder) {
                n--;
            }
            least = n;
        }
        return least;
    }

    // ---- IV: two, ranks, gaps, newcomers ----

    public int joint(int one, int other, int n) {
        int no = noPairFar(one, other, n);
        if (no != 0) {
            return refuse(no);
        }
        house.reckon();
        int bits = 0;
        for (int view = 0; view < VIEWS; view++) {
            if (house.outdo(one, other, view, n)) {
                bits |= 1 << view;
            }
        }
        return bits;
    }

    public int rank(int view, int i) {
        int no = noView(view);
        if (no == 0 && i < 0) {
            no = BELOW;
        }
        if (no != 0) {
            return refuse(no);
        }
        for (int looker = 0; looker < house.lookerCount; looker++) {
            if (house.placeOf(looker, view) == i) {
                return looker;
            }
        }
        return NONE;
    }

    public int gap(int view, int n) {
        int no = firstOf(noView(view), outside(n, 0, FAR));
        if (no != 0) {
            return refuse(no);
        }
        house.reckon();
        int most = 0;
        int second = 0;
        for (int looker = 0; looker < house.lookerCount; looker++) {
            int seen = house.behind(looker, view, n);
            if (seen > most) {
                second = most;
                most = seen;
            } else if (seen > second) {
                second = seen;
            }
        }
        return most - second;
    }

    public int wasted(int looker, int what) {
        int no = firstOf(noLooker(looker), notBelow(what, 2));
        if (no != 0) {
            return refuse(no);
        }
        int bits = 0;
        for (int hour = 0; hour < HOURS; hour++) {
            boolean standing = house.rosters[looker][hour] != NO_PANE;
            boolean pulls = house.pull(looker, hour) > 0;
            if (what == 0 ? standing && !pulls : !standing && pulls) {
                bits |= 1 << hour;
            }
        }
        return bits;
    }

    public int ahead(int one, int other) {
        int no = noPair(one, other);
        if (no != 0) {
            return refuse(no);
        }
        house.reckon();
        for (int n = 0; n <= FAR; n++) {
            if (house.lead(one, other, n) > 0) {
                return n;
            }
        }
        return NONE;
    }

    public int bestLaw(int looker, int n) {
        int no = noLookerFar(looker, n);
        if (no != 0) {
            return refuse(no);
        }
        mind.takeFrom(house);
        mind.reckon();
        int best = 0;
        int most = -1;
        for (int v = 0; v < LAWS; v++) {
            mind.rule(v);
            int wealth = mind.wealth(looker, n);
            if (wealth > most) {
                most = wealth;
                best = v;
            }
        }
        return best;
    }

    public int newcomer(int kind, int pane, int what) {
        int no = firstOf(noPane(pane), firstOf(notBelow(kind, KINDS), notBelow(what, 2)));
        if (no == 0 && house.lookerCount >= LOOKERS) {
            no = STATE;
        }
        if (no != 0) {
            return refuse(no);
        }
        mind.takeFrom(house);
        mind.addLooker(kind, NEWCOMERS_FIGURE);
        int newcomer = mind.lookerCount - 1;
        mind.post(newcomer, 0, HOURS - 1, pane);
        mind.reckon();
        for (int n = 0; n <= FAR; n++) {
            int view = mind.firstHolding(newcomer, n);
            if (view != NONE) {
                return what == 0 ? n : view;
            }
        }
        return NONE;
    }

    public int mostSeen(int what) {
        int no = notBelow(what, 2);
        if (no != 0) {
            return refuse(no);
        }
        house.reckon();
        int best = 0;
        int most = 0;
        for (int view = 0; view < VIEWS; view++) {
            int seen = house.gainOfAll(view);
            if (seen > most) {
                most = seen;
                best = view;
            }
        }
        return what == 0 ? best : most;
    }

    public int duels(int one, int other) {
        int no = noPair(one, other);
        if (no != 0) {
            return refuse(no);
        }
        house.reckon();
        int both = 0;
        for (int view = 0; view < VIEWS; view++) {
            if (house.gains[one][view] > 0 && house.gains[other][view] > 0) {
                both++;
            }
        }
        return both;
    }

    // ---- the row, lots, the image, counts of all ----

    public int row(int v) {
        int no = outside(v, 0, MOST_IN_ROW);
        if (no == 0 && rowSize >= ROW) {
            no = ROOM;
        }
        if (no != 0) {
            return refuse(no);
        }
        rowNumbers[rowSize] = v;
        rowSize++;
        return rowSize;
    }

    public int judge(int view) {
        if (!House.isView(view)) {
            return refuse(NOBODY);
        }
        house.reckon();
        int wrong = NONE;
        for (int n = 0; n < rowSize && wrong == NONE; n++) {
            if (rowNumbers[n] != inRow(house.holder(view, n))) {
                wrong = n;
            }
        }
        rowSize = 0;
        return wrong;
    }

    public int clear() {
        int had = rowSize;
        rowSize = 0;
        return had;
    }

    public int lots(int n, int z, int what) {
        int no = firstOf(outside(n, 1, MOST_YEARS), notBelow(what, 2));
        if (no != 0) {
            return refuse(no);
        }
        if (house.paneCount == 0) {
            return 0;
        }
        mind.takeFrom(house);
        int seed = z;
        int sum = 0;
        for (int year = 0; year < n; year++) {
            seed = castRosters(seed);
            mind.reckon();
            int best = mind.wealthiest(MOST_DAYS);
            if (what == 0) {
                sum += Integer.bitCount(mind.held(MOST_DAYS));
            } else if (best != NONE) {
                sum += mind.wealth(best, MOST_DAYS);
            }
        }
        return sum;
    }

    /** Gives all lookers of the mind's house rosters by lot; answers the seed behind it. */
    private int castRosters(int z) {
        int seed = z;
        for (int looker = 0; looker < mind.lookerCount; looker++) {
            mind.post(looker, 0, HOURS - 1, NO_PANE);
            for (int i = 0; i < LOTS_EACH; i++) {
                seed = nextSeed(seed);
                int from = drawBelow(seed, HOURS);
                seed = nextSeed(seed);
                int to = Math.min(from + LOTS_EACH - 1, HOURS - 1);
                mind.post(looker, from, to, drawBelow(seed, mind.paneCount));
            }
        }
        return seed;
    }

    private static int nextSeed(int z) {
        return z * 1103515245 + 12345;
    }

    private static int drawBelow(int z, int n) {
        return n <= 0 ? 0 : (z & 0x7fffffff) / 65536 % n;
    }

    public int image() {
        kept.takeFrom(house);
        imageTaken = true;
        return house.day;
    }

    public int restore() {
        if (!imageTaken) {
            return refuse(STATE);
        }
        house.takeFrom(kept);
        steps.forget();
        return house.day;
    }

    public int count(int what) {
        if (what >= 11 && what <= 16) {
            return refusals[what - 10];
        }
        switch (what) {
            case 0:
                return house.paneCount;
            case 1:
                return house.lookerCount;
            case 2:
                return house.day;
            case 3:
                return house.law;
            case 4:
                house.reckon();
                return Integer.bitCount(house.held(0));
            case 5:
                return Integer.bitCount(house.allShown());
            case 6:
                return house.hoursOfAll();
            case 7:
                return letters.size;
            case 8:
                return rowSize;
            case 9:
                return steps.size;
            default:
                return NONE;
        }
    }

    /** Panes, lookers, counts, worths, the law and the day: one stands, others are thought or kept. */
    private static final class House {
        int paneCount;
        final int[] paneViews;
        int lookerCount;
        final int[] kinds;
        final int[] figures;
        final int[][] rosters;
        final int[][] counts;
        final int[] worths;
        int law;
        int day;
        /** What a day brings each looker of each view, as reckon() found it last. */
        final int[][] gains;

        House() {
            paneCount = 0;
            paneViews = new int[PANES];
            lookerCount = 0;
            kinds = new int[LOOKERS];
            figures = new int[LOOKERS];
            rosters = new int[LOOKERS][HOURS];
            counts = new int[LOOKERS][VIEWS];
            worths = new int[VIEWS];
            law = FIRST_COME;
            day = 0;
            gains = new int[LOOKERS][VIEWS];
            for (int view = 0; view < VIEWS; view++) {
                worths[view] = 1;
            }
        }

        /** Gains are not taken along: reckon() finds them anew. */
        void takeFrom(House from) {
            paneCount = from.paneCount;
            lookerCount = from.lookerCount;
            law = from.law;
            day = from.day;
            System.arraycopy(from.paneViews, 0, paneViews, 0, PANES);
            System.arraycopy(from.kinds, 0, kinds, 0, LOOKERS);
            System.arraycopy(from.figures, 0, figures, 0, LOOKERS);
            System.arraycopy(from.worths, 0, worths, 0, VIEWS);
            for (int looker = 0; looker < LOOKERS; looker++) {
                System.arraycopy(from.rosters[looker], 0, rosters[looker], 0, HOURS);
                System.arraycopy(from.counts[looker], 0, counts[looker], 0, VIEWS);
            }
        }

        static boolean isView(int view) {
            return view >= 0 && view < VIEWS;
        }

        static boolean isHour(int hour) {
            return hour >= 0 && hour < HOURS;
        }

        boolean isPane(int pane) {
            return pane >= 0 && pane < paneCount && pane < PANES;
        }

        boolean isLooker(int looker) {
            return looker >= 0 && looker < lookerCount && looker < LOOKERS;
        }

        // Changes: each answers whether it could be, and changes nothing if not.

        boolean addPane(int views) {
            if (views < 0 || views > ALL_VIEWS || paneCount < 0 || paneCount >= PANES) {
                return false;
            }
            paneViews[paneCount] = views;
            paneCount++;
            return true;
        }

        boolean addLooker(int kind, int figure) {
            if (kind < 0 || kind >= KINDS || figure < 0 || figure > MOST_FIGURE
                    || lookerCount < 0 || lookerCount >= LOOKERS) {
                return false;
            }
            kinds[lookerCount] = kind;
            figures[lookerCount] = figure;
            for (int hour = 0; hour < HOURS; hour++) {
                rosters[lookerCount][hour] = NO_PANE;
            }
            for (int view = 0; view < VIEWS; view++) {
                counts[lookerCount][view] = 0;
            }
            lookerCount++;
            return true;
        }

        boolean post(int looker, int from, int to, int pane) {
            if (!isLooker(looker) || !isHour(from) || !isHour(to) || from > to
                    || pane != NO_PANE && !isPane(pane)) {
                return false;
            }
            for (int hour = from; hour <= to; hour++) {
                rosters[looker][hour] = pane;
            }
            return true;
        }

        boolean flip(int pane, int view) {
            if (!isPane(pane) || !isView(view)) {
                return false;
            }
            paneViews[pane] ^= 1 << view;
            return true;
        }

        boolean price(int view, int worth) {
            if (!isView(view) || worth < 0 || worth > MOST_WORTH) {
                return false;
            }
            worths[view] = worth;
            return true;
        }

        boolean rule(int v) {
            if (v < 0 || v >= LAWS) {
                return false;
            }
            law = v;
            return true;
        }

        boolean pass(int n) {
            if (n < 1 || n > MOST_DAYS || day + n > MOST_DAY) {
                return false;
            }
            reckon();
            for (int looker = 0; looker < lookerCount; looker++) {
                for (int view = 0; view < VIEWS; view++) {
                    counts[looker][view] = behind(looker, view, n);
                }
            }
            day += n;
            return true;
        }

        void tradeRosters(int one, int other) {
            if (!isLooker(one) || !isLooker(other)) {
                return;
            }
            for (int hour = 0; hour < HOURS; hour++) {
                int pane = rosters[one][hour];
                rosters[one][hour] = rosters[other][hour];
                rosters[other][hour] = pane;
            }
        }

        // Panes and rosters as they are.

        boolean shows(int pane, int view) {
            return isPane(pane) && isView(view) && (paneViews[pane] >> view & 1) == 1;
        }

        /** The views that some panes (bits) show together. */
        int shownBy(int panes) {
            int views = 0;
            for (int pane = 0; pane < paneCount; pane++) {
                if ((panes >> pane & 1) == 1) {
                    views |= paneViews[pane];
                }
            }
            return views;
        }

        int allShown() {
            return shownBy((1 << paneCount) - 1);
        }

        int timesShown(int view) {
            int times = 0;
            for (int pane = 0; pane < paneCount; pane++) {
                if (shows(pane, view)) {
                    times++;
                }
            }
            return times;
        }

        int hoursAt(int pane) {
            int hours = 0;
            for (int looker = 0; looker < lookerCount; looker++) {
                for (int hour = 0; hour < HOURS; hour++) {
                    if (rosters[looker][hour] == pane) {
                        hours++;
                    }
                }
            }
            return hours;
        }

        int hoursOf(int looker) {
            int hours = 0;
            for (int hour = 0; hour < HOURS; hour++) {
                if (rosters[looker][hour] != NO_PANE) {
                    hours++;
                }
            }
            return hours;
        }

        int hoursOfAll() {
            int hours = 0;
            for (int looker = 0; looker < lookerCount; looker++) {
                hours += hoursOf(looker);
            }
            return hours;
        }

        int standingIn(int hour) {
            int standing = 0;
            for (int looker = 0; looker < lookerCount; looker++) {
                if (rosters[looker][hour] != NO_PANE) {
                    standing++;
                }
            }
            return standing;
        }

        // Pull and what a day brings.

        int pull(int looker, int hour) {
            int figure = figures[looker];
            switch (kinds[looker]) {
                case LOOKER:
                    return 1;
                case INVALID:
                    return invalidsPull(hour);
                case SWEEP:
                    return hour == figure + 8 ? 5 : 0;
                case CHILD:
                    return hour % 2 == 0 ? 1 : 0;
                case SISTER:
                    return figure / 3 + invalidsPull(hour);
                case STARER:
                    return (figure / 3 + invalidsPull(hour)) * (hour >= 20 ? 2 : 1);
                default:
                    return 0;
            }
        }

        private static int invalidsPull(int hour) {
            return hour >= 6 && hour <= 17 ? 2 : 1;
        }

        /** The views (bits) that one sees in an hour; a sweep sees all that any pane shows. */
        private int sight(int looker, int hour, int all) {
            if (kinds[looker] == SWEEP) {
                return all;
            }
            int pane = rosters[looker][hour];
            return isPane(pane) ? paneViews[pane] : 0;
        }

        void reckon() {
            int all = allShown();
            for (int looker = 0; looker < lookerCount; looker++) {
                for (int view = 0; view < VIEWS; view++) {
                    gains[looker][view] = 0;
                }
                for (int hour = 0; hour < HOURS; hour++) {
                    int pull = pull(looker, hour);
                    if (pull > 0) {
                        gain(looker, sight(looker, hour, all), pull);
                    }
                }
            }
        }

        private void gain(int looker, int views, int pull) {
            for (int view = 0; view < VIEWS; view++) {
                if ((views >> view & 1) == 1) {
                    gains[looker][view] += pull;
                }
            }
        }

        int gainOfAll(int view) {
            int sum = 0;
            for (int looker = 0; looker < lookerCount; looker++) {
                sum += gains[looker][view];
            }
            return sum;
        }

        // Counts and owners behind n days, by the gains reckoned last.

        int behind(int looker, int view, int n) {
            return Math.min(MOST_COUNTS, counts[looker][view] + n * gains[looker][view]);
        }

        int holder(int view, int n) {
            int best = NONE;
            int most = 0;
            int sum = 0;
            boolean several = false;
            for (int looker = 0; looker < lookerCount; looker++) {
                int seen = behind(looker, view, n);
                sum += seen;
                if (seen > most) {
                    most = seen;
                    best = looker;
                    several = false;
                } else if (seen == most) {
                    several = true;
                }
            }
            if (law == NO_TIES && several || law == MORE_THAN_ALL && most <= sum - most) {
                return NONE;
            }
            return best;
        }

        int holdings(int looker, int n) {
            int bits = 0;
            for (int view = 0; view < VIEWS; view++) {
                if (holder(view, n) == looker) {
                    bits |= 1 << view;
                }
            }
            return bits;
        }

        int firstHolding(int looker, int n) {
            for (int view = 0; view < VIEWS; view++) {
                if (holder(view, n) == looker) {
                    return view;
                }
            }
            return NONE;
        }

        int held(int n) {
            return ALL_VIEWS - holdings(NONE, n);
        }

        int wealth(int looker, int n) {
            int sum = 0;
            for (int view = 0; view < VIEWS; view++) {
                if (holder(view, n) == looker) {
                    sum += worths[view];
                }
            }
            return sum;
        }

        int wealthiest(int n) {
            int best = NONE;
            int most = -1;
            for (int looker = 0; looker < lookerCount; looker++) {
                int wealth = wealth(looker, n);
                if (wealth > most) {
                    most = wealth;
                    best = looker;
                }
            }
            return best;
        }

        /** One's wealth less another one's. */
        int lead(int one, int other, int n) {
            int lead = 0;
            for (int view = 0; view < VIEWS; view++) {
                int holder = holder(view, n);
                if (holder == one) {
                    lead += worths[view];
                } else if (holder == other) {
                    lead -= worths[view];
                }
            }
            return lead;
        }

        /** Whether two together have more of a view than any other one. */
        boolean outdo(int one, int other, int view, int n) {
            int sum = behind(one, view, n) + behind(other, view, n);
            for (int looker = 0; looker < lookerCount; looker++) {
                if (looker != one && looker != other && behind(looker, view, n) >= sum) {
                    return false;
                }
            }
            return true;
        }

        /** How many lookers rank ahead of one by counts of a view. */
        int placeOf(int looker, int view) {
            int before = 0;
            int own = counts[looker][view];
            for (int other = 0; other < lookerCount; other++) {
                int seen = counts[other][view];
                if (seen > own || seen == own && other < looker) {
                    before++;
                }
            }
            return before;
        }
    }

    /** What can be taken back: a ring of the latest changes, each with what was before. */
    private static final class Steps {
        final int[] whats;
        final int[] places;
        final int[] olds;
        final int[][] oldRosters;
        int first;
        int size;

        Steps() {
            whats = new int[STEPS];
            places = new int[STEPS];
            olds = new int[STEPS];
            oldRosters = new int[STEPS][HOURS];
            first = 0;
            size = 0;
        }

        void forget() {
            size = 0;
        }

        /** A slot for one step more; the oldest gives its own where there is no room. */
        private int nextSlot() {
            int slot = (first + size) % STEPS;
            if (size < STEPS) {
                size++;
            } else {
                first = (first + 1) % STEPS;
            }
            return slot;
        }

        void keep(int what, int place, int old) {
            int slot = nextSlot();
            whats[slot] = what;
            places[slot] = place;
            olds[slot] = old;
        }

        void keepRoster(int looker, int[] old) {
            int slot = nextSlot();
            whats[slot] = STOOD;
            places[slot] = looker;
            for (int hour = 0; hour < HOURS && hour < old.length; hour++) {
                oldRosters[slot][hour] = old[hour];
            }
        }

        void undoLatest(House house) {
            if (size <= 0) {
                return;
            }
            size--;
            int slot = (first + size) % STEPS;
            int place = places[slot];
            switch (whats[slot]) {
                case STOOD:
                    for (int hour = 0; hour < HOURS; hour++) {
                        house.post(place, hour, hour, oldRosters[slot][hour]);
                    }
                    break;
                case WALLED:
                    if (house.isPane(place)) {
                        house.paneViews[place] = olds[slot];
                    }
                    break;
                case PRICED:
                    house.price(place, olds[slot]);
                    break;
                default:
                    house.rule(olds[slot]);
                    break;
            }
        }
    }

    /** The letters of a terrace: statements of a letter, digits and ";". */
    private static final class Letters {
        final int[] signs;
        int size;

        Letters() {
            signs = new int[LETTERS];
            size = 0;
        }

        void add(int letter) {
            if (size >= 0 && size < LETTERS) {
                signs[size] = letter;
                size++;
            }
        }

        /** How many digits a statement has behind its first letter; NONE if no statement begins so. */
        private static int digitsOf(int letter) {
            switch (letter) {
                case 'p':
                    return 3;
                case 's':
                    return 6;
                case 'l':
                case 'v':
                case 'w':
                case 'd':
                    return 2;
                case 'u':
                    return 1;
                default:
                    return NONE;
            }
        }

        private boolean isDigit(int place) {
            return place >= 0 && place < size && signs[place] >= '0' && signs[place] <= '9';
        }

        /** The place behind a statement that begins at a place and is of the right form. */
        int behind(int place) {
            if (place < 0 || place >= size) {
                return LETTERS;
            }
            return place + Math.max(digitsOf(signs[place]), 0) + 2;
        }

        /** The place of the first letter that cannot be (the end, if something lacks); NONE if all can. */
        int faultOfForm() {
            if (size == 0) {
                return 0;
            }
            int digits = 0;
            boolean within = false;
            for (int place = 0; place < size; place++) {
                if (!within) {
                    digits = digitsOf(signs[place]);
                    within = digits != NONE;
                    if (!within) {
                        return place;
                    }
                } else if (digits > 0) {
                    if (!isDigit(place)) {
                        return place;
                    }
                    digits--;
                } else {
                    if (signs[place] != ';') {
                        return place;
                    }
                    within = false;
                }
            }
            return within ? size : NONE;
        }

        private int number(int place, int digits) {
            int number = 0;
            for (int i = place; i < place + digits; i++) {
                number = number * 10 + (isDigit(i) ? signs[i] - '0' : 0);
            }
            return number;
        }

        /** Tells a house the statement at a place; false if it is not as it must be. */
        boolean tell(House house, int place) {
            if (place < 0 || place >= size) {
                return false;
            }
            int next = place + 1;
            switch (signs[place]) {
                case 'p':
                    return house.addPane(number(next, 3));
                case 'l':
                    return house.addLooker(number(next, 1), number(next + 1, 1));
                case 's':
                    return house.post(number(next, 1), number(next + 1, 2), number(next + 3, 2), number(next + 5, 1));
                case 'v':
                    return house.price(number(next, 1), number(next + 1, 1));
                case 'w':
                    return house.flip(number(next, 1), number(next + 1, 1));
                case 'u':
                    return house.rule(number(next, 1));
                case 'd':
                    return number(next, 2) <= MOST_TOLD_DAYS && house.pass(number(next, 2));
                default:
                    return false;
            }
        }
    }
}
