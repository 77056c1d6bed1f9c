/** Each promise by calls whose answers are worked out by hand: ordinary ones, the edges, the refusals. */
public final class PromisesTest {
    private static int wrong = 0;
    private static final int MIN = Integer.MIN_VALUE;
    private static final int MAX = Integer.MAX_VALUE;

    private static void due(int promise, String what, long got, long want) {
        if (got != want) {
            wrong++;
            System.out.println("promise " + promise + ", " + what + ": answered " + got + ", due is " + want);
        }
    }

    private static int feed(WindowTaken x, String text) {
        int n = 0;
        for (int i = 0; i < text.length(); i++) {
            n = x.feed(text.charAt(i));
        }
        return n;
    }

    private static int tell(WindowTaken x, String text) {
        feed(x, text);
        return x.terrace();
    }

    /** A new object on which a terrace is told. */
    private static WindowTaken told(String text) {
        WindowTaken x = new WindowTaken();
        int n = tell(x, text);
        if (n < 0) {
            due(3, text, n, 0);
        }
        return x;
    }

    private static long longNo(int no) {
        return 4000000000000000000L - no;
    }

    public static void main(String[] args) {
        newObjectAndLetters();
        terraces();
        panesAndLookers();
        changes();
        takenBack();
        ownersOnTheDay();
        ownersByKinds();
        laws();
        daysToCome();
        choices();
        coversAndWalls();
        fractions();
        twos();
        rows();
        rostersTogether();
        heirsAndLast();
        ranksAndGaps();
        newcomersAndDuels();
        lots();
        images();
        refusalsInOrder();
        System.out.println(wrong == 0 ? "all promises hold" : wrong + " answers are not as promised");
        if (wrong != 0) {
            System.exit(1);
        }
    }

    private static void newObjectAndLetters() {
        WindowTaken x = new WindowTaken();
        for (int what = -1; what <= 17; what++) {
            boolean known = what >= 0 && what <= 9 || what >= 11 && what <= 16;
            due(1, "count " + what, x.count(what), known ? 0 : -9);
        }
        due(2, "below", x.feed(-1), -4);
        due(2, "least", x.feed(0), 1);
        due(2, "greatest", x.feed(255), 2);
        due(2, "above", x.feed(256), -6);
        for (int i = 3; i <= 96; i++) {
            due(2, "letter " + i, x.feed('p'), i);
        }
        due(2, "no room", x.feed('p'), -6);
        due(2, "below goes ahead of no room", x.feed(-1), -4);
        due(55, "letters", x.count(7), 96);
        due(55, "below", x.count(14), 2);
        due(55, "room", x.count(16), 2);
        due(55, "never -5", x.count(15), 0);
        due(55, "another what", x.count(10), -9);
        due(55, "far", x.count(MAX), -9);
        due(55, "far below", x.count(MIN), -9);
    }

    private static void terraces() {
        WindowTaken x = new WindowTaken();
        due(3, "nothing told", x.terrace(), -1000);
        due(3, "all statements", tell(x, "p003;p255;l00;l59;s008171;v09;w02;u1;d60;"), 9);
        due(3, "letters are no more", x.count(7), 0);
        due(3, "panes", x.count(0), 2);
        due(3, "wall told", x.paneOf(0, 0), 7);
        due(3, "worth told", x.worth(0, 9), 9);
        due(3, "law told", x.count(3), 1);
        due(3, "days told", x.count(2), 60);
        due(3, "hours told", x.lookerOf(0, 2), 10);
        due(3, "days brought", x.counts(0, 7, 0), 600);
        due(3, "wall told again", tell(x, "w02;"), 1);
        due(3, "view not shown", x.paneOf(0, 0), 3);
        due(3, "stands nowhere", tell(x, "s008089;"), 1);
        due(3, "an hour less", x.roster(0, 8), -9);
        due(3, "no statement", tell(x, "x"), -1000);
        due(3, "second no statement", tell(x, "u0;q"), -1003);
        due(3, "a semicolon alone", tell(x, "u0;;"), -1003);
        due(3, "digit due", tell(x, "p0a3;"), -1002);
        due(3, "semicolon due", tell(x, "u00"), -1002);
        due(3, "digit lacks", tell(x, "d1"), -1002);
        due(3, "semicolon lacks", tell(x, "d10"), -1003);
        due(3, "above nine", tell(x, "u:;"), -1001);
        due(3, "below nought", tell(x, "u/;"), -1001);
        due(3, "form ahead of sense", tell(x, "u9;x"), -1003);
        due(3, "law out of range", tell(x, "u0;u3;"), -2003);
        due(3, "views out of range", tell(x, "p256;"), -2000);
        due(3, "kind out of range", tell(x, "l60;"), -2000);
        due(3, "no looker", tell(x, "s200000;"), -2000);
        due(3, "no hour", tell(x, "s000240;"), -2000);
        due(3, "no first hour", tell(x, "s024240;"), -2000);
        due(3, "later first", tell(x, "s009080;"), -2000);
        due(3, "no pane to stand at", tell(x, "s000002;"), -2000);
        due(3, "view 8", tell(x, "v80;"), -2000);
        due(3, "no pane to wall", tell(x, "w20;"), -2000);
        due(3, "no view to wall", tell(x, "w08;"), -2000);
        due(3, "no days", tell(x, "d00;"), -2000);
        due(3, "61 days", tell(x, "d61;"), -2000);
        due(3, "no room for panes", tell(x, "p000;p000;p000;p000;p000;"), -2020);
        due(3, "no room for lookers", tell(x, "l00;l00;l00;l00;"), -2012);
        due(3, "nothing came", x.count(0) * 10 + x.count(1), 22);
        due(3, "made in the text", tell(x, "l30;s200231;"), 2);
        due(3, "not before it is made", tell(x, "s300231;l30;"), -2000);
        due(3, "nothing is counted", x.count(11) + x.count(12) + x.count(13) + x.count(14) + x.count(16), 0);
        due(3, "96 letters", feed(x, "u0;".repeat(32)), 96);
        due(3, "32 statements", x.terrace(), 32);
        due(3, "96 letters and a lack", feed(x, "u0;".repeat(31) + "d10"), 96);
        due(3, "the end", x.terrace(), -1096);
        WindowTaken y = new WindowTaken();
        for (int i = 0; i < 101; i++) {
            y.days(99);
        }
        due(13, "day 9999", y.count(2), 9999);
        due(13, "beyond", y.days(1), -6);
        due(3, "day above 9999", tell(y, "u1;d01;"), -2003);
        due(3, "law did not come", y.count(3), 0);
    }

    private static void panesAndLookers() {
        WindowTaken x = new WindowTaken();
        due(6, "below", x.pane(-1), -4);
        due(6, "above", x.pane(256), -6);
        for (int i = 0; i < 6; i++) {
            due(6, "its number", x.pane(i == 5 ? 255 : i), i);
        }
        due(6, "no room", x.pane(0), -6);
        due(6, "below first", x.pane(-1), -4);
        due(4, "views", x.paneOf(3, 0), 3);
        due(4, "hours", x.paneOf(3, 1), 0);
        due(4, "no pane", x.paneOf(6, 0), -1);
        due(4, "no pane below", x.paneOf(-1, 2), -1);
        due(4, "other", x.paneOf(0, 2), -2);
        due(4, "other below", x.paneOf(0, -1), -2);
        due(7, "kind", x.looker(6, 10), -2);
        due(7, "kind below", x.looker(-1, -1), -2);
        due(7, "below", x.looker(0, -1), -4);
        due(7, "above", x.looker(0, 10), -6);
        for (int i = 0; i < 5; i++) {
            due(7, "his number", x.looker(i + 1, 9 - i), i);
        }
        due(7, "no room", x.looker(0, 0), -6);
        due(7, "kind ahead of room", x.looker(6, 0), -2);
        due(5, "kind", x.lookerOf(4, 0), 5);
        due(5, "figure", x.lookerOf(4, 1), 5);
        due(5, "hours", x.lookerOf(4, 2), 0);
        due(5, "views", x.lookerOf(4, 3), 0);
        due(5, "other", x.lookerOf(4, 4), -2);
        due(5, "nobody", x.lookerOf(5, 4), -1);
        due(9, "none at first", x.roster(0, 0), -9);
        due(55, "panes", x.count(0), 6);
        due(55, "lookers", x.count(1), 5);
        due(55, "views shown", x.count(5), 8);
    }

    private static void changes() {
        WindowTaken x = told("p001;p002;l00;l10;");
        due(8, "hours", x.stands(0, 3, 5, 0), 3);
        due(8, "all hours", x.stands(1, 0, 23, 1), 24);
        due(8, "over it", x.stands(0, 5, 6, 1), 4);
        due(8, "none", x.stands(0, 3, 4, 9), 2);
        due(8, "later first", x.stands(0, 5, 4, 0), -3);
        due(8, "nobody ahead", x.stands(0, 5, 4, 2), -1);
        due(8, "no looker", x.stands(2, 0, 0, 0), -1);
        due(8, "no hour", x.stands(0, -1, 0, 0), -1);
        due(8, "no other hour", x.stands(0, 0, 24, 0), -1);
        due(8, "no pane -1", x.stands(0, 0, 0, -1), -1);
        due(9, "pane", x.roster(0, 6), 1);
        due(9, "none", x.roster(0, 7), -9);
        due(9, "no looker", x.roster(2, 0), -1);
        due(9, "no hour", x.roster(0, 24), -1);
        due(4, "hours of all at it", x.paneOf(1, 1), 26);
        due(55, "hours of all", x.count(6), 26);
        due(10, "not any more", x.wall(0, 0), 0);
        due(10, "again", x.wall(0, 0), 1);
        due(10, "another", x.wall(0, 7), 1);
        due(10, "bits", x.paneOf(0, 0), 129);
        due(10, "no pane", x.wall(2, 0), -1);
        due(10, "no view", x.wall(0, 8), -1);
        due(11, "was 1", x.worth(7, 9), 1);
        due(11, "was 9", x.worth(7, 0), 9);
        due(11, "nobody", x.worth(8, -1), -1);
        due(11, "below", x.worth(0, -1), -4);
        due(11, "above", x.worth(0, 10), -6);
        due(12, "was 0", x.law(2), 0);
        due(12, "was 2", x.law(1), 2);
        due(12, "other", x.law(3), -2);
        due(12, "other below", x.law(-1), -2);
        due(12, "stays", x.count(3), 1);
        due(13, "below", x.days(0), -4);
        due(13, "above", x.days(100), -6);
        due(13, "far", x.days(MAX), -6);
        due(13, "views with an owner", x.days(1), 1);
        due(13, "day", x.count(2), 1);
        due(13, "with an owner", x.count(4), 1);
        due(15, "counts of a day", x.counts(1, 1, 0), 36);
        due(15, "two days", x.days(1) + x.counts(1, 1, 0), 73);
        due(15, "what a day brings", x.counts(0, 1, 1), 2);
        due(15, "nobody", x.counts(2, 0, 2), -1);
        due(15, "no view", x.counts(0, 8, 2), -1);
        due(15, "other", x.counts(0, 0, 2), -2);
    }

    private static void takenBack() {
        WindowTaken x = told("p001;p002;l00;");
        due(14, "none", x.back(), -3);
        x.stands(0, 0, 9, 0);
        x.stands(0, 5, 14, 1);
        x.wall(0, 3);
        x.worth(2, 7);
        x.law(2);
        due(55, "can be taken back", x.count(9), 5);
        due(14, "law", x.back(), 4);
        due(14, "law was", x.count(3), 0);
        due(14, "worth", x.back(), 3);
        due(14, "worth was", x.worth(2, 1), 1);
        due(14, "a worth that stays counts", x.back(), 3);
        due(14, "wall", x.back(), 2);
        due(14, "wall was", x.paneOf(0, 0), 1);
        due(14, "second roster", x.back(), 1);
        due(14, "hours were", x.lookerOf(0, 2) * 100 + x.paneOf(0, 1), 1010);
        due(14, "first roster", x.back(), 0);
        due(14, "hours were none", x.lookerOf(0, 2), 0);
        for (int v = 0; v <= 8; v++) {
            x.worth(0, v);
        }
        due(55, "8 at most", x.count(9), 8);
        for (int left = 7; left >= 0; left--) {
            due(14, "left", x.back(), left);
        }
        due(14, "older ones no more", x.back(), -3);
        due(14, "the oldest stays", x.worth(0, 1), 0);
        x.pane(0);
        due(14, "a pane leaves none", x.back(), -3);
        x.law(1);
        x.looker(0, 0);
        due(14, "a looker leaves none", x.back(), -3);
        x.law(1);
        x.days(1);
        due(14, "days leave none", x.back(), -3);
        x.law(1);
        tell(x, "u1;");
        due(14, "a terrace leaves none", x.back(), -3);
        x.law(1);
        x.image();
        due(14, "the image leaves all", x.count(9), 1);
        x.restore();
        due(14, "restore leaves none", x.back(), -3);
        x.law(2);
        x.days(0);
        x.pane(-1);
        x.looker(9, 9);
        tell(x, "u3;");
        x.law(3);
        x.stands(0, 1, 0, 0);
        due(14, "what is refused leaves all", x.back(), 0);
        due(14, "law as before", x.count(3), 1);
        due(55, "refused states", x.count(13), 8);
    }

    private static void ownersOnTheDay() {
        // Looker 0 at views 0, 1 by 2 hours, looker 1 at views 1, 2 by 3.
        WindowTaken x = told("p003;p006;l00;l00;s000010;s100021;v05;");
        due(16, "nobody now", x.owner(0, 0), -9);
        due(16, "a day on", x.owner(0, 1), 0);
        due(16, "the most", x.owner(1, 999), 1);
        due(16, "no view", x.owner(8, -1), -1);
        due(16, "below", x.owner(0, -1), -4);
        due(16, "above", x.owner(0, 1000), -6);
        due(17, "views", x.owns(1, 1, 0), 6);
        due(17, "worth", x.owns(0, 1, 1), 5);
        due(17, "now", x.owns(0, 0, 1), 0);
        due(17, "nobody", x.owns(2, -1, 2), -1);
        due(17, "below", x.owns(0, -1, 2), -4);
        due(17, "above ahead of other", x.owns(0, 1000, 2), -6);
        due(17, "other", x.owns(0, 0, 2), -2);
        due(18, "nobodys", x.nobodys(1), 248);
        due(18, "now", x.nobodys(0), 255);
        due(18, "below", x.nobodys(-1), -4);
        due(18, "above", x.nobodys(1000), -6);
        due(21, "richest", x.richest(1, 0), 0);
        due(21, "how much", x.richest(1, 1), 5);
        due(21, "of several the least", x.richest(0, 0), 0);
        due(21, "nought", x.richest(0, 1), 0);
        due(21, "below", x.richest(-1, 2), -4);
        due(21, "above", x.richest(1000, 2), -6);
        due(21, "other", x.richest(0, 2), -2);
        due(5, "none yet", x.lookerOf(1, 3), 0);
        x.days(1);
        due(5, "views", x.lookerOf(1, 3), 6);
        due(19, "from now", x.from(0, 0), 0);
        due(19, "never", x.from(0, 1), -9);
        due(19, "nobody", x.from(2, 0), -1);
        due(19, "no view", x.from(0, -1), -1);
    }

    private static void ownersByKinds() {
        // One of each of five kinds stands all day at view 0; figures 4 (a sweep's hour 12).
        WindowTaken x = told("p001;p002;l04;l14;l24;l34;l44;s000230;s100230;s200230;s300230;s400230;");
        due(15, "looker", x.counts(0, 0, 1), 24);
        due(15, "invalid", x.counts(1, 0, 1), 36);
        due(15, "sweep", x.counts(2, 0, 1), 5);
        due(15, "sweep sees all", x.counts(2, 1, 1), 5);
        due(15, "child", x.counts(3, 0, 1), 12);
        due(15, "sister", x.counts(4, 0, 1), 60);
        WindowTaken y = told("p001;l59;s000230;l29;l20;l52;s300230;");
        due(15, "starer of 9", y.counts(0, 0, 1), 24 * 3 + 36 + 16);
        due(15, "starer of 2", y.counts(3, 0, 1), 36 + 4);
        due(15, "sweep of 9", y.counts(1, 0, 1), 5);
        y.stands(0, 0, 23, 9);
        y.stands(0, 19, 20, 0);
        due(15, "starer by hours 19, 20", y.counts(0, 0, 1), 4 + 8);
        due(43, "sweep of 9 pulls in 17", y.wasted(1, 1), 1 << 17);
        due(43, "sweep of 0 pulls in 8", y.wasted(2, 1), 1 << 8);
        y.wall(0, 0);
        due(15, "no view shown", y.counts(1, 0, 1), 0);
        WindowTaken z = told("p001;l10;");
        z.stands(0, 5, 5, 0);
        due(15, "invalid in 5", z.counts(0, 0, 1), 1);
        z.stands(0, 6, 6, 0);
        due(15, "invalid in 6", z.counts(0, 0, 1), 3);
        z.stands(0, 17, 18, 0);
        due(15, "invalid in 17, 18", z.counts(0, 0, 1), 6);
        // 124 a day: 99999 is reached in 807 days, in mind and on the days.
        WindowTaken m = told("p001;l59;l59;s000230;s101230;");
        for (int i = 0; i < 8; i++) {
            m.days(99);
        }
        due(15, "not yet the most", m.counts(0, 0, 0), 124 * 792);
        due(42, "the most in mind", m.gap(0, 14), 124 * 806 - 120 * 806);
        due(42, "at most 99999", m.gap(0, 999), 0);
        m.days(20);
        due(15, "the most", m.counts(0, 0, 0), 99999);
        due(15, "a day brings", m.counts(0, 0, 1), 124);
    }

    private static void laws() {
        // View 0: 2 and 2 hours; view 1: 3 alone; view 2: 3, 2 and 1 hours; view 3: 4, 2 and 1.
        WindowTaken x = told("p001;p002;p004;p008;l00;l00;l00;");
        x.stands(0, 0, 1, 0);
        x.stands(1, 0, 1, 0);
        x.stands(2, 0, 2, 1);
        x.stands(0, 2, 4, 2);
        x.stands(1, 2, 3, 2);
        x.stands(2, 3, 3, 2);
        x.stands(0, 5, 6, 3);
        x.stands(1, 4, 7, 3);
        x.stands(2, 4, 4, 3);
        x.days(1);
        due(16, "law 0, several", x.owner(0, 0), 0);
        due(16, "law 0, most", x.owner(2, 0), 0);
        x.law(1);
        due(16, "law 1, several", x.owner(0, 0), -9);
        due(16, "law 1, most", x.owner(2, 0), 0);
        x.law(2);
        due(16, "law 2, several", x.owner(0, 0), -9);
        due(16, "law 2, not more than all others'", x.owner(2, 0), -9);
        due(16, "law 2, more than all others'", x.owner(3, 0), 1);
        due(16, "law 2, alone", x.owner(1, 0), 2);
        due(31, "empty row", x.whichLaw(), 7);
        x.row(0);
        due(31, "0 just by law 0", x.whichLaw(), 1);
        x.clear();
        x.row(99);
        due(31, "nobody by laws 1, 2", x.whichLaw(), 6);
        x.row(2);
        x.row(0);
        due(31, "law 1", x.whichLaw(), 2);
        due(31, "the row stays", x.count(8), 3);
        x.row(50);
        due(31, "no law", x.whichLaw(), 0);
        due(45, "of several the least", x.bestLaw(1, 0), 0);
        due(45, "law 0", x.bestLaw(0, 9), 0);
        due(45, "nobody", x.bestLaw(3, -1), -1);
        due(45, "below", x.bestLaw(0, -1), -4);
        due(45, "above", x.bestLaw(0, 1000), -6);
        due(45, "the law stays", x.count(3), 2);
        due(55, "views with an owner", x.count(4), 2);
    }

    private static void daysToCome() {
        // Looker 0 has 10 days of 2 hours at view 0 and leaves; looker 1 comes with 3 hours: 3n > 20 from n = 7.
        WindowTaken x = told("p001;l00;l00;s000010;d10;s000019;s100020;");
        due(19, "from", x.from(1, 0), 7);
        due(20, "lost", x.lost(0), 7);
        due(20, "nobody owns it now", x.lost(1), -3);
        due(20, "no view", x.lost(8), -1);
        due(22, "not yet", x.staredOut(0, 1, 6), 0);
        due(22, "stared out", x.staredOut(0, 1, 7), 1);
        due(22, "no view of his now", x.staredOut(1, 0, 0), 0);
        due(22, "one twice", x.staredOut(0, 0, -1), -1);
        due(22, "below", x.staredOut(0, 1, -1), -4);
        due(22, "above", x.staredOut(0, 1, 1000), -6);
        due(39, "last", x.last(), 7);
        due(44, "ahead", x.ahead(1, 0), 7);
        due(44, "ahead now", x.ahead(0, 1), 0);
        due(44, "one twice", x.ahead(1, 1), -1);
        due(44, "nobody", x.ahead(0, 2), -1);
        x.law(1);
        due(20, "lost by law 1", x.lost(0), 7);
        x.worth(0, 0);
        due(44, "never ahead", x.ahead(1, 0), -9);
        x.days(7);
        due(20, "never lost", x.lost(0), -9);
        due(19, "never", x.from(0, 0), -9);
        due(39, "stays", x.last(), 0);
        // A tie on the way: 20 against 4n, nobody's by law 1 just at n = 5.
        WindowTaken y = told("p001;l00;l00;s000010;d10;s000019;s100030;u1;");
        due(20, "lost to nobody", y.lost(0), 5);
        due(18, "nobody's then", y.nobodys(5), 255);
        due(39, "last behind the tie", y.last(), 6);
        due(19, "from behind the tie", y.from(1, 0), 6);
    }

    private static void choices() {
        // Looker 0 has 5 hours a day at view 0; looker 1, INVALID, none; of 10 days n = 10.
        WindowTaken x = told("p001;p002;l00;l10;s000040;");
        due(23, "he does", x.moreHours(0, 0, 1), 0);
        due(23, "hours of pull 2 first", x.moreHours(1, 0, 10), 3);
        due(23, "a view of nobody's", x.moreHours(1, 1, 1), 1);
        due(23, "no pane shows it", x.moreHours(1, 2, 1), -9);
        due(23, "no looker", x.moreHours(2, 0, 0), -1);
        due(23, "no view", x.moreHours(0, 8, 0), -1);
        due(23, "below 1", x.moreHours(0, 0, 0), -4);
        due(23, "above", x.moreHours(0, 0, 1000), -6);
        x.stands(1, 6, 16, 1);
        due(23, "the rest: one of 2, then of 1", x.moreHours(1, 0, 10), 5);
        x.stands(0, 0, 23, 0);
        due(23, "all would not do", x.moreHours(1, 0, 10), -9);
        WindowTaken s = told("p001;l00;l20;s000050;");
        due(23, "a sweep sees no more", s.moreHours(1, 0, 5), -9);
        // Best pane: view 0 (worth 1), view 1 (worth 4), both held by looker 0 but for hour 3.
        WindowTaken y = told("p001;p002;p000;l00;l00;v14;s000010;");
        due(24, "pane", y.bestPane(1, 3, 1, 0), 1);
        due(24, "that", y.bestPane(1, 3, 1, 1), 4);
        due(24, "of several the least", y.bestPane(1, 3, 0, 0), 0);
        due(24, "nought", y.bestPane(1, 3, 0, 1), 0);
        due(24, "nobody", y.bestPane(2, 0, -1, 2), -1);
        due(24, "no hour", y.bestPane(0, 24, -1, 2), -1);
        due(24, "below", y.bestPane(0, 0, -1, 2), -4);
        due(24, "above", y.bestPane(0, 0, 1000, 2), -6);
        due(24, "other", y.bestPane(0, 0, 0, 2), -2);
        due(24, "roster stays", y.roster(1, 3), -9);
        WindowTaken none = told("l00;");
        due(24, "no panes: none", none.bestPane(0, 0, 9, 0), 9);
        due(24, "no panes: that", none.bestPane(0, 0, 9, 1), 0);
        // Looker 0: 3 hours at view 0, 1 at view 1; looker 1: 2 hours at view 0 (a tie would still be the first's).
        WindowTaken z = told("p001;p002;l00;l00;s000020;s003031;s100010;");
        due(25, "each of three alone", z.freeHours(0, 1), 7);
        due(25, "before a day all", z.freeHours(0, 0), 15);
        due(25, "his who owns none", z.freeHours(1, 1), 3);
        z.law(1);
        due(25, "none of them in a tie", z.freeHours(0, 1), 0);
        due(25, "nobody", z.freeHours(2, -1), -1);
        due(25, "below", z.freeHours(0, -1), -4);
        due(25, "above", z.freeHours(0, 1000), -6);
        due(25, "roster stays", z.lookerOf(0, 2), 4);
    }

    private static void coversAndWalls() {
        WindowTaken x = told("p003;p006;p012;p008;");
        due(26, "two", x.cover(), 5);
        due(27, "two panes", x.shown(1), 2);
        due(27, "one pane", x.shown(0), 1);
        due(27, "none", x.shown(7), 0);
        due(27, "no view", x.shown(8), -1);
        due(27, "no view below", x.shown(-1), -1);
        WindowTaken same = told("p003;p003;p000;");
        due(26, "of several the least", same.cover(), 1);
        due(26, "nothing shown", told("p000;").cover(), 0);
        due(26, "no panes", new WindowTaken().cover(), 0);
        WindowTaken all = told("p001;p002;p004;p008;p016;p032;");
        due(26, "all six", all.cover(), 63);
        // Looker 0 owns views 0 (worth 1), 1 (worth 3, of panes 0 and 1), 2 (worth 3, of pane 1).
        WindowTaken y = told("p003;p006;l00;v13;v23;s000020;s003031;");
        due(28, "view 2 of pane 1", y.walls(0, 1, 0), 12);
        due(28, "how much", y.walls(0, 1, 1), 3);
        y.worth(2, 1);
        due(28, "of several the least", y.walls(0, 1, 0), 0);
        due(28, "how much", y.walls(0, 1, 1), 1);
        due(28, "none takes any now", y.walls(0, 0, 0), -9);
        due(28, "none takes any", y.walls(0, 0, 1), -9);
        due(28, "nobody", y.walls(1, -1, 2), -1);
        due(28, "below", y.walls(0, -1, 2), -4);
        due(28, "above", y.walls(0, 1000, 2), -6);
        due(28, "other", y.walls(0, 0, 2), -2);
        due(28, "panes stay", y.paneOf(1, 0), 6);
    }

    private static void fractions() {
        WindowTaken x = told("p001;l00;l00;s000030;s100010;d03;");
        due(29, "12 of 18, above", x.share(0, 0, 0), 2);
        due(29, "12 of 18, below", x.share(0, 0, 1), 3);
        due(29, "of none, above", x.share(0, 1, 0), 0);
        due(29, "of none, below", x.share(0, 1, 1), 1);
        x.looker(0, 0);
        due(29, "nought of some, below", x.share(2, 0, 1), 1);
        due(29, "nobody", x.share(3, 0, 2), longNo(-1));
        due(29, "no view", x.share(0, 8, 2), longNo(-1));
        due(29, "other", x.share(0, 0, 2), longNo(-2));
        due(29, "by its number", longNo(-1), 4000000000000000001L);
        // Looker 0: 2 a day, looker 1: 1 a day from 0: 2 days, odds 1 in 4: 0 ill 9/16, once 6/16 (2 against 2), twice 1/16.
        WindowTaken y = told("p001;l00;l00;s000010;s100000;");
        due(33, "first of several, above", y.ill(0, 0, 2, 4, 0), 15);
        due(33, "first of several, below", y.ill(0, 0, 2, 4, 1), 16);
        y.law(1);
        due(33, "several nobody, above", y.ill(0, 0, 2, 4, 0), 9);
        due(33, "several nobody, below", y.ill(0, 0, 2, 4, 1), 16);
        due(33, "lowest terms, above", y.ill(0, 0, 1, 4, 0), 3);
        due(33, "never, above", y.ill(1, 0, 8, 20, 0), 0);
        due(33, "never, below", y.ill(1, 0, 8, 20, 1), 1);
        due(33, "no days", y.ill(0, 0, 0, 2, 1), 1);
        y.stands(1, 0, 0, 9);
        due(33, "all but ill always, above", y.ill(0, 0, 8, 20, 0), 25599999999L);
        due(33, "all but ill always, below", y.ill(0, 0, 8, 20, 1), 25600000000L);
        y.days(1);
        due(33, "surely, above", y.ill(0, 0, 5, 3, 0), 1);
        due(33, "surely, below", y.ill(0, 0, 5, 3, 1), 1);
        due(33, "nobody", y.ill(2, 0, -1, 1, 2), longNo(-1));
        due(33, "no view", y.ill(0, 8, -1, 1, 2), longNo(-1));
        due(33, "below n", y.ill(0, 0, -1, 21, 2), longNo(-4));
        due(33, "below t ahead of above n", y.ill(0, 0, 9, 1, 2), longNo(-4));
        due(33, "above n", y.ill(0, 0, 9, 2, 2), longNo(-6));
        due(33, "above t", y.ill(0, 0, 8, 21, 2), longNo(-6));
        due(33, "other", y.ill(0, 0, 8, 20, 2), longNo(-2));
        due(55, "longs are counted", y.count(11) + y.count(12) + y.count(14) + y.count(16), 7);
    }

    private static void twos() {
        // Views 0 (worth 1) and 1 (worth 2): the first takes view 1 in a tie, the other is left view 0.
        WindowTaken x = told("p001;p002;l00;l00;v12;");
        due(30, "first takes most", x.two(0, 1, 5, 1), 10);
        due(30, "told the other way", x.two(1, 0, 5, 1), 1);
        due(30, "now all alike", x.two(0, 1, 5, 0), 0);
        due(30, "roster stays", x.count(6), 0);
        due(30, "one twice", x.two(0, 0, 5, 1), -1);
        due(30, "nobody", x.two(0, 2, 5, 1), -1);
        due(30, "no hour", x.two(0, 1, 24, 1), -1);
        due(30, "below", x.two(0, 1, 5, -1), -4);
        due(30, "above", x.two(0, 1, 5, 1000), -6);
        due(30, "no panes", told("l00;l00;").two(0, 1, 0, 1), -9);
        // By law 1 looker 0 (2 in hour 8) spoils his view where looker 1 (1 of each before) stands too; 1 has one either way.
        WindowTaken y = told("p001;p002;l10;l00;v05;v15;s105050;s106061;u1;");
        due(30, "first pair apart", y.two(0, 1, 8, 1), 1);
        // Looker 0 (1 of each before, 1 in hour 8) has both views where 1 (2 in hour 8) stands with him, else just one.
        WindowTaken z = told("p001;p002;l00;l10;s005050;s006061;");
        due(30, "no pair contents both", z.two(0, 1, 8, 1), -9);
    }

    private static void rows() {
        WindowTaken x = told("p001;l00;l00;s000010;d02;s000019;s100020;");
        due(49, "below", x.row(-1), -4);
        due(49, "above", x.row(100), -6);
        due(49, "first", x.row(0), 1);
        due(49, "second", x.row(0), 2);
        due(49, "third", x.row(1), 3);
        due(55, "in the row", x.count(8), 3);
        due(50, "no view", x.judge(8), -1);
        due(50, "it stays", x.count(8), 3);
        due(50, "all so: 4 against 0, 3, 6", x.judge(0), -9);
        due(50, "none then", x.count(8), 0);
        x.row(0);
        x.row(1);
        x.row(0);
        due(50, "the first that is not so", x.judge(0), 1);
        due(50, "none then either", x.count(8), 0);
        x.row(99);
        x.row(99);
        due(50, "nobody", x.judge(4), -9);
        due(50, "empty", x.judge(4), -9);
        for (int i = 1; i <= 12; i++) {
            due(49, "as many", x.row(99), i);
        }
        due(49, "no room", x.row(0), -6);
        due(49, "below first", x.row(-1), -4);
        due(31, "more than 8", x.whichLaw(), -3);
        due(32, "more than 8", x.whichKind(0, 0, 0), -3);
        due(32, "other ahead", x.whichKind(0, 0, 2), -2);
        due(32, "above ahead", x.whichKind(0, 1000, 2), -6);
        due(32, "below", x.whichKind(0, -1, 2), -4);
        due(32, "nobody", x.whichKind(2, -1, 2), -1);
        due(51, "it had", x.clear(), 12);
        due(51, "none", x.clear(), 0);
        // Hours 8 .. 11 at view 0 against 6 of looker 0: INVALID 8, SISTER 8, STARER 8 (figure 0), CHILD 2, LOOKER 4.
        WindowTaken y = told("p001;l00;l00;s000050;s108110;");
        y.row(1);
        due(32, "kinds", y.whichKind(1, 1, 0), 2 + 16 + 32);
        due(32, "figures of a looker", y.whichKind(1, 1, 1), 0);
        y.clear();
        y.row(0);
        due(32, "kinds that do not own", y.whichKind(1, 1, 0), 1 + 4 + 8);
        due(32, "all figures", y.whichKind(1, 1, 1), 1023);
        due(32, "the row stays", y.count(8), 1);
        y.row(99);
        due(32, "two views told", y.whichKind(1, 1, 0), 1 + 4 + 8);
        y.clear();
        for (int i = 0; i < 8; i++) {
            y.row(99);
        }
        due(31, "8 are not more than 8", y.whichLaw(), 7);
        due(32, "kind stays", y.lookerOf(1, 0) + y.lookerOf(1, 1), 0);
        WindowTaken z = told("p001;l00;l42;s000230;s112150;");
        z.row(1);
        due(32, "figures: 4 (2 + f / 3) above 24", z.whichKind(1, 1, 1), 0);
        z.stands(0, 0, 7, 9);
        due(32, "figures: 4 (2 + f / 3) above 16", z.whichKind(1, 1, 1), 512);
        z.stands(0, 0, 11, 9);
        due(32, "figures: 4 (2 + f / 3) above 12", z.whichKind(1, 1, 1), 64 + 128 + 256 + 512);
    }

    private static void rostersTogether() {
        WindowTaken x = told("p001;p002;l00;l00;l30;s002050;s104080;s204041;");
        due(34, "hour", x.busy(0), 4);
        due(34, "how many", x.busy(1), 3);
        due(34, "other", x.busy(2), -2);
        x.stands(2, 5, 5, 1);
        due(34, "of several the first", x.busy(0), 4);
        due(35, "hours", x.together(0, 1), 16 + 32);
        due(35, "not at one pane", x.together(0, 2), 0);
        due(35, "one twice", x.together(1, 1), -1);
        due(35, "nobody", x.together(1, 3), -1);
        due(43, "wasted", x.wasted(2, 0), 32);
        due(43, "idle", x.wasted(2, 1), 0x555555 - 16);
        due(43, "idle of a looker", x.wasted(0, 1), 0xffffff - 60);
        due(43, "nobody", x.wasted(3, 2), -1);
        due(43, "other", x.wasted(0, 2), -2);
        // View 0 (worth 1) is 0's, view 1 (worth 3) is 1's by 1 against the child's 1 (hour 10 of 9, 10).
        // 0 and 2 change: 0 has 2 of view 1, 2 has view 0: 4 instead of 1. Other twos have together what they had.
        WindowTaken y = told("p001;p002;l00;l10;l30;v13;s000000;s100001;s209101;");
        due(36, "now as it is", y.swap(0), -9);
        due(36, "below", y.swap(-1), -4);
        due(36, "above", y.swap(1000), -6);
        due(36, "0 and 2", y.swap(1), 2);
        due(36, "alike rosters", told("p001;l00;l00;").swap(9), -9);
        due(36, "rosters stay", y.roster(0, 0) * 10 + y.roster(2, 9), 1);
        due(38, "even before", y.even(0), 3);
        due(38, "even then", y.even(1), 0);
        due(38, "below", y.even(-1), -4);
        due(38, "above", y.even(1000), -6);
    }

    private static void heirsAndLast() {
        WindowTaken x = told("p001;l00;l00;l20;s000050;s100020;d01;");
        due(37, "the sweep has 5", x.heir(0, 0, 0), 2);
        due(37, "later", x.heir(0, 0, 99), 2);
        due(37, "another one's", x.heir(2, 0, 0), 0);
        due(37, "a view of nobody's", x.heir(0, 1, 5), -9);
        due(37, "nobody", x.heir(3, 0, -1), -1);
        due(37, "no view", x.heir(0, 8, -1), -1);
        due(37, "below", x.heir(0, 0, -1), -4);
        due(37, "above", x.heir(0, 0, 1000), -6);
        due(37, "counts stay", x.counts(0, 0, 0), 6);
        x.stands(0, 0, 5, 9);
        x.stands(1, 0, 2, 9);
        due(37, "a sweep looks on", x.heir(2, 0, 2), 2);
        due(37, "not at once", x.heir(2, 0, 1), 0);
        due(39, "last: 6 against 5 + 5", x.last(), 1);
    }

    private static void ranksAndGaps() {
        WindowTaken x = told("p001;l00;l00;l00;l00;s000010;s100030;s200030;d02;s300230;");
        due(41, "first", x.rank(0, 0), 1);
        due(41, "of several the least number", x.rank(0, 1), 2);
        due(41, "third", x.rank(0, 2), 0);
        due(41, "with none", x.rank(0, 3), 3);
        due(41, "no more", x.rank(0, 4), -9);
        due(41, "far", x.rank(0, MAX), -9);
        due(41, "no view", x.rank(-1, -1), -1);
        due(41, "below", x.rank(0, -1), -4);
        due(42, "even", x.gap(0, 0), 0);
        due(42, "9 days on: 216 and 44", x.gap(0, 9), 172);
        due(42, "nobody saw", x.gap(1, 9), 0);
        due(42, "one looker", told("p001;l00;s000010;").gap(0, 3), 6);
        due(42, "no looker", told("p001;").gap(0, 3), 0);
        due(42, "no view", x.gap(8, -1), -1);
        due(42, "below", x.gap(0, -1), -4);
        due(42, "above", x.gap(0, 1000), -6);
        // Counts now 4, 8, 8, 0.
        due(40, "12 above 8", x.joint(0, 1, 0), 1);
        due(40, "8 not above 8", x.joint(1, 3, 0), 0);
        due(40, "4 not above 8", x.joint(0, 3, 0), 0);
        due(40, "one day on 28 above 12", x.joint(3, 0, 1), 1);
        due(40, "one twice", x.joint(0, 0, -1), -1);
        due(40, "nobody", x.joint(0, 4, -1), -1);
        due(40, "below", x.joint(0, 1, -1), -4);
        due(40, "above", x.joint(0, 1, 1000), -6);
        due(40, "no other one", told("l00;l00;").joint(0, 1, 0), 255);
    }

    private static void newcomersAndDuels() {
        // Looker 0 has 3 days of 24 at view 1 and 2 of pane 0 and goes; INVALID brings 36, SISTER of 5: 60.
        WindowTaken x = told("p006;p000;l00;s000230;d03;s000239;");
        due(46, "invalid: 36 n above 72", x.newcomer(1, 0, 0), 3);
        due(46, "the least view", x.newcomer(1, 0, 1), 1);
        due(46, "sister: 60 n above 72", x.newcomer(4, 0, 0), 2);
        due(46, "child: 12 n above 72", x.newcomer(3, 0, 0), 7);
        due(46, "a pane of nothing", x.newcomer(1, 1, 0), -9);
        due(46, "a pane of nothing, view", x.newcomer(1, 1, 1), -9);
        due(46, "a sweep sees all", x.newcomer(2, 1, 0), 15);
        due(46, "he is not there", x.count(1), 1);
        due(46, "no pane", x.newcomer(6, 2, 2), -1);
        due(46, "none is no pane", x.newcomer(0, 9, 0), -1);
        due(46, "kind", x.newcomer(6, 0, 0), -2);
        due(46, "other", x.newcomer(0, 0, 2), -2);
        tell(x, "l00;l00;l00;l00;");
        due(46, "5 there are", x.newcomer(0, 0, 0), -3);
        due(46, "other ahead", x.newcomer(0, 0, 2), -2);
        WindowTaken y = told("p003;p006;l00;l10;l20;s000010;s108091;");
        due(47, "view", y.mostSeen(0), 1);
        due(47, "that: 2 + 4 + 5", y.mostSeen(1), 11);
        due(47, "other", y.mostSeen(2), -2);
        due(48, "one view", y.duels(0, 1), 1);
        due(48, "with the sweep", y.duels(1, 2), 2);
        due(48, "one twice", y.duels(2, 2), -1);
        due(48, "nobody", y.duels(-1, 2), -1);
        y.stands(0, 0, 23, 9);
        due(48, "one looks at nothing", y.duels(0, 2), 0);
        due(47, "of several the least: 9 and 9", y.mostSeen(0), 1);
    }

    private static void lots() {
        due(52, "without panes", told("l00;").lots(3, 7, 0), 0);
        due(52, "without lookers", told("p255;").lots(3, 7, 0), 0);
        due(52, "without lookers, worth", told("p255;").lots(3, 7, 1), 0);
        WindowTaken x = told("p003;l00;v15;");
        due(52, "each year both views", x.lots(20, 5, 0), 40);
        due(52, "each year 6", x.lots(20, 5, 1), 120);
        due(52, "any seed", x.lots(1, MIN, 1), 6);
        due(52, "rosters stay", x.count(6), 0);
        due(52, "below", x.lots(0, 1, 2), -4);
        due(52, "above", x.lots(21, 1, 2), -6);
        due(52, "other", x.lots(1, 1, 2), -2);
        // The draws of one looker's year, by the document's words; a child sees by even hours.
        WindowTaken y = told("p001;p002;p004;p008;p016;p032;l30;");
        int views = 0;
        int[] at = new int[24];
        long z = 1;
        for (int i = 0; i < 4; i++) {
            z = (z * 1103515245L + 12345L) & 0xffffffffL;
            int hour = (int) ((z & 0x7fffffffL) / 65536 % 24);
            z = (z * 1103515245L + 12345L) & 0xffffffffL;
            int pane = (int) ((z & 0x7fffffffL) / 65536 % 6);
            for (int h = hour; h <= Math.min(23, hour + 3); h++) {
                at[h] = pane + 1;
            }
        }
        for (int h = 0; h < 24; h += 2) {
            views |= at[h] > 0 ? 1 << at[h] : 0;
        }
        due(52, "a child by even hours", y.lots(1, 1, 0), Integer.bitCount(views));
    }

    private static void images() {
        WindowTaken x = told("p001;l00;s000010;d02;");
        due(54, "there is none", x.restore(), -3);
        due(53, "day", x.image(), 2);
        x.pane(7);
        x.looker(3, 3);
        x.stands(0, 0, 23, 1);
        x.wall(0, 7);
        x.worth(0, 8);
        x.law(2);
        x.days(5);
        x.row(9);
        x.feed('u');
        x.law(7);
        due(54, "day", x.restore(), 2);
        due(54, "panes", x.count(0) * 1000 + x.paneOf(0, 0), 1001);
        due(54, "lookers", x.count(1), 1);
        due(54, "rosters", x.lookerOf(0, 2), 2);
        due(54, "counts", x.counts(0, 0, 0), 4);
        due(54, "law", x.count(3), 0);
        due(54, "letters stay", x.count(7), 1);
        due(54, "the row stays", x.count(8), 1);
        due(54, "refusals stay", x.count(12) * 10 + x.count(13), 11);
        due(54, "nothing to take back", x.count(9), 0);
        due(54, "worth", x.worth(0, 3), 1);
        x.days(1);
        due(54, "again", x.restore(), 2);
        due(54, "a looker anew", x.looker(0, 0), 1);
        due(54, "stands nowhere", x.lookerOf(1, 2), 0);
        due(54, "has no counts", x.counts(1, 0, 0), 0);
        due(53, "anew", x.days(3) + x.image(), 6);
        x.restore();
        due(53, "the later one", x.count(1), 2);
    }

    private static void refusalsInOrder() {
        WindowTaken x = told("p001;l00;");
        x.paneOf(9, 9);
        x.paneOf(0, 9);
        x.stands(0, 1, 0, 0);
        x.days(0);
        x.days(MIN);
        x.days(100);
        x.law(5);
        due(55, "-1", x.count(11), 1);
        due(55, "-2", x.count(12), 2);
        due(55, "-3", x.count(13), 1);
        due(55, "-4", x.count(14), 2);
        due(55, "-5", x.count(15), 0);
        due(55, "-6", x.count(16), 1);
        x.count(99);
        x.roster(0, 0);
        x.heir(0, 0, 0);
        due(55, "-9 is no refusal", x.count(11) + x.count(12) + x.count(13) + x.count(14) + x.count(16), 7);
    }
}
