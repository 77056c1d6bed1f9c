/**
 * Each sentence of the document that names a boundary case: numbers below the least and above the greatest, nothing
 * there, no room left, what wraps around, what is refused. Answers are worked out by hand. The scripts are run by Calls,
 * which also sees to it that what is refused, or only asks, changes nothing.
 */
public final class BoundsTest {
    private static int wrong = 0;
    private static int told = 0;

    private static void holds(String sentence, String script) {
        told++;
        for (String line : Calls.run(script)) {
            wrong++;
            System.out.println(sentence + ": " + line);
        }
    }

    private static void due(String sentence, long got, long want) {
        told++;
        if (got != want) {
            wrong++;
            System.out.println(sentence + ": answered " + got + ", due is " + want);
        }
    }

    public static void main(String[] args) {
        whatThereIs();
        mostCountsAndDays();
        pulls();
        sights();
        owners();
        formsOfTerraces();
        sensesOfTerraces();
        roomForTerraces();
        daysInMind();
        richestAndStaredOut();
        moreHours();
        panesAndHours();
        coversAndWalls();
        fractions();
        illness();
        twos();
        rowsOfOwners();
        judged();
        lotsByNumbers();
        lotsBySeeds();
        takenBack();
        takenBackWhole();
        takenBackNoMore();
        rostersTogether();
        heirs();
        jointsAndRanks();
        hoursLost();
        laws();
        newcomers();
        seenAndDuels();
        images();
        counted();
        System.out.println(wrong == 0 ? told + " bounds hold" : wrong + " answers are not as due");
        if (wrong != 0) {
            System.exit(1);
        }
    }

    // ---- I ----

    private static void whatThereIs() {
        holds("VIEWS 0 .. 7", """
            tell p255;l00;s000230;d01; = 4
            owner 0 0 = 0
            owner 7 0 = 0
            owner 8 0 = -1
            owner -1 0 = -1
            wall 0 7 = 0
            wall 0 8 = -1
            wall 0 -1 = -1
            paneOf 0 0 = 127
            """);
        holds("WORTH 0 .. 9; 1 at first", """
            worth 0 0 = 1
            worth 1 9 = 1
            worth 2 1 = 1
            worth 3 1 = 1
            worth 4 1 = 1
            worth 5 1 = 1
            worth 6 1 = 1
            worth 7 1 = 1
            worth 0 -1 = -4
            worth 1 10 = -6
            worth 0 9 = 0
            worth 1 0 = 9
            worth 0 10 = -6
            worth 1 -1 = -4
            """);
        holds("PANES 0 .. 5 as they come (6 at most); bits 0 .. 255", """
            paneOf 0 0 = -1
            pane -1 = -4
            pane 256 = -6
            count 0 = 0
            pane 0 = 0
            paneOf 0 0 = 0
            paneOf 1 0 = -1
            pane 255 = 1
            pane 0 = 2
            pane 0 = 3
            pane 0 = 4
            pane 128 = 5
            paneOf 5 0 = 128
            paneOf 1 0 = 255
            pane 0 = -6
            pane 255 = -6
            pane 256 = -6
            pane -1 = -4
            paneOf 6 0 = -1
            count 0 = 6
            count 14 = 2
            count 16 = 4
            """);
        holds("LOOKERS 0 .. 4 as they come (5 at most), KINDS 0 .. 5, FIGURES 0 .. 9", """
            lookerOf 0 0 = -1
            looker -1 0 = -2
            looker 6 0 = -2
            looker 0 -1 = -4
            looker 5 10 = -6
            looker 6 -1 = -2
            looker 6 10 = -2
            looker 0 0 = 0
            lookerOf 0 0 = 0
            lookerOf 0 1 = 0
            lookerOf 1 0 = -1
            looker 5 9 = 1
            lookerOf 1 0 = 5
            lookerOf 1 1 = 9
            looker 1 1 = 2
            looker 2 8 = 3
            looker 4 4 = 4
            looker 0 0 = -6
            looker 0 -1 = -4
            looker -1 0 = -2
            lookerOf 5 0 = -1
            count 1 = 5
            """);
        holds("a ROSTER: none at first; HOURS 0 .. 23", """
            tell p001;l00; = 2
            roster 0 0 = -9
            roster 0 23 = -9
            roster 0 24 = -1
            roster 0 -1 = -1
            lookerOf 0 2 = 0
            stands 0 0 0 0 = 1
            stands 0 23 23 0 = 2
            stands 0 -1 23 0 = -1
            stands 0 0 24 0 = -1
            roster 0 0 = 0
            roster 0 1 = -9
            roster 0 22 = -9
            roster 0 23 = 0
            stands 0 0 23 0 = 24
            paneOf 0 1 = 24
            count 6 = 24
            stands 0 0 23 9 = 0
            roster 0 23 = -9
            paneOf 0 1 = 0
            count 6 = 0
            """);
        holds("stands: a PANE (9 none); -1 any; -3 the first is later", """
            tell p001;p001;l00; = 3
            stands 0 4 4 1 = 1
            stands 0 5 4 1 = -3
            stands 0 23 0 9 = -3
            stands 0 5 4 2 = -1
            stands 1 5 4 0 = -1
            stands 0 24 4 0 = -1
            stands 0 4 4 2 = -1
            stands 0 4 4 8 = -1
            stands 0 4 4 -9 = -1
            stands 0 4 4 10 = -1
            stands 0 4 4 9 = 0
            stands 0 3 4 0 = 2
            stands 0 4 5 1 = 3
            roster 0 3 = 0
            roster 0 4 = 1
            """);
        holds("THE LAW (0 .. 2; 0 at first)", """
            count 3 = 0
            law -1 = -2
            law 3 = -2
            law 2 = 0
            law 3 = -2
            law 0 = 2
            law 1 = 0
            law MIN = -2
            law MAX = -2
            count 3 = 1
            """);
        holds("feed: -4; -6 (255; 96, too)", """
            feed -1 = -4
            feed 256 = -6
            count 7 = 0
            feed 0 = 1
            feed 255 = 2
            again 93 feed 112 = 95
            feed 256 = -6
            feed 112 = 96
            feed 112 = -6
            feed 256 = -6
            feed -1 = -4
            count 7 = 96
            count 14 = 2
            count 16 = 4
            terrace = -1000
            count 7 = 0
            feed 112 = 1
            """);
    }

    private static void mostCountsAndDays() {
        // A STARER of 9 has 124 a day, but for HOUR 0 120: 806 days bring 99944 and 96720, 833 days 99960 of 120.
        holds("COUNTS (0 at first; 99999 at most)", """
            tell p001;l59;l59;s000230;s101230; = 5
            counts 0 0 0 = 0
            counts 0 0 1 = 124
            counts 1 0 1 = 120
            again 8 days 99
            counts 0 0 0 = 98208
            gap 0 14 = 3224
            gap 0 15 = 3159
            gap 0 41 = 39
            gap 0 42 = 0
            owner 0 42 = 0
            staredOut 0 1 42 = 0
            days 14 = 1
            counts 0 0 0 = 99944
            days 1 = 1
            counts 0 0 0 = 99999
            counts 1 0 0 = 96840
            counts 0 0 1 = 124
            days 99 = 1
            counts 0 0 0 = 99999
            counts 1 0 0 = 99999
            share 0 0 0 = 1
            share 0 0 1 = 2
            joint 0 1 0 = 255
            owner 0 0 = 0
            law 1 = 0
            owner 0 999 = -9
            """);
        holds("99999 at most, also by a TERRACE's days", """
            tell p001;l59;s000230; = 3
            again 8 days 99
            tell d14;d01;d60; = 3
            counts 0 0 0 = 99999
            """);
        holds("two at 99999 together have more than a third one's 99999", """
            tell p001;l59;l59;l59;s000230;s100230;s200230; = 7
            joint 0 1 999 = 1
            joint 1 2 0 = 0
            """);
        holds("DAY (0 .. 9999; 0 at first); a DAY is 1 more", """
            count 2 = 0
            days 0 = -4
            days -1 = -4
            days 100 = -6
            days MAX = -6
            days MIN = -4
            days 1 = 0
            count 2 = 1
            again 100 days 99
            count 2 = 9901
            days 99 = -6
            days 97 = 0
            count 2 = 9998
            days 2 = -6
            days 100 = -6
            days 0 = -4
            days 1 = 0
            count 2 = 9999
            days 1 = -6
            count 2 = 9999
            """);
        holds("a TERRACE's DAY above 9999", """
            again 100 days 99
            days 39
            count 2 = 9939
            tell d61; = -2000
            tell d60;d01; = -2004
            count 2 = 9939
            tell u1;d60; = 2
            count 2 = 9999
            tell u2;d01; = -2003
            count 3 = 1
            nobodys 999 = 255
            """);
    }

    /** The pull of a looker of each hour, as digits, told by what one hour at a pane brings (a sweep's by his idle hours). */
    private static void pulls() {
        pull(0, 0, "111111111111111111111111");
        pull(0, 9, "111111111111111111111111");
        pull(1, 0, "111111222222222222111111");
        pull(1, 9, "111111222222222222111111");
        pull(2, 0, "000000005000000000000000");
        pull(2, 1, "000000000500000000000000");
        pull(2, 9, "000000000000000005000000");
        pull(3, 0, "101010101010101010101010");
        pull(3, 9, "101010101010101010101010");
        pull(4, 0, "111111222222222222111111");
        pull(4, 2, "111111222222222222111111");
        pull(4, 3, "222222333333333333222222");
        pull(4, 5, "222222333333333333222222");
        pull(4, 6, "333333444444444444333333");
        pull(4, 8, "333333444444444444333333");
        pull(4, 9, "444444555555555555444444");
        pull(5, 0, "111111222222222222112222");
        pull(5, 2, "111111222222222222112222");
        pull(5, 3, "222222333333333333224444");
        pull(5, 8, "333333444444444444336666");
        pull(5, 9, "444444555555555555448888");
    }

    private static void pull(int kind, int figure, String digits) {
        Calls.Used x = new Calls.Used();
        x.tell("p129;l" + kind + figure + ";");
        int day = 0;
        for (int hour = 0; hour < 24; hour++) {
            int pull = digits.charAt(hour) - '0';
            String told = "PULL of kind " + kind + ", figure " + figure + ", in HOUR " + hour;
            day += pull;
            due(told + ", IDLE", x.ask("wasted", 0, 1) >> hour & 1, pull > 0 ? 1 : 0);
            x.ask("stands", 0, hour, hour, 0);
            due(told + ", WASTED", x.ask("wasted", 0, 0), pull > 0 ? 0 : 1 << hour);
            if (kind != 2) {
                due(told, x.ask("counts", 0, 0, 1), pull);
                due(told + ", of the greatest VIEW", x.ask("counts", 0, 7, 1), pull);
            }
            x.ask("stands", 0, hour, hour, 9);
        }
        x.ask("stands", 0, 0, 23, 0);
        due("a DAY of kind " + kind + ", figure " + figure, x.ask("counts", 0, 0, 1), day);
    }

    private static void sights() {
        holds("one SEES the VIEWS of the PANE of his ROSTER (none without)", """
            tell p001;p130;p000;l00; = 4
            counts 0 0 1 = 0
            stands 0 0 0 0 = 1
            stands 0 1 2 1 = 3
            stands 0 3 23 2 = 24
            counts 0 0 1 = 1
            counts 0 1 1 = 2
            counts 0 2 1 = 0
            counts 0 7 1 = 2
            wall 1 7 = 0
            counts 0 7 1 = 0
            wall 2 7 = 1
            counts 0 7 1 = 21
            """);
        holds("a SWEEP all VIEWS that any PANE shows, whether he stands at a PANE or not", """
            tell l20; = 1
            counts 0 0 1 = 0
            tell p001;p128;p000; = 3
            counts 0 0 1 = 5
            counts 0 7 1 = 5
            counts 0 1 1 = 0
            stands 0 0 23 2 = 24
            counts 0 0 1 = 5
            counts 0 1 1 = 0
            stands 0 0 23 0 = 24
            counts 0 0 1 = 5
            counts 0 7 1 = 5
            wall 1 7 = 0
            counts 0 7 1 = 0
            """);
        holds("counts: -1 either; -2", """
            counts 0 0 0 = -1
            tell p001;l00; = 2
            counts 0 0 0 = 0
            counts 0 7 1 = 0
            counts 0 8 2 = -1
            counts 1 0 2 = -1
            counts 0 0 2 = -2
            counts 0 0 -1 = -2
            """);
        holds("paneOf, lookerOf: -1; -2", """
            tell p009;l53; = 2
            paneOf 1 2 = -1
            paneOf -1 0 = -1
            paneOf 0 2 = -2
            paneOf 0 -1 = -2
            lookerOf 1 4 = -1
            lookerOf -1 0 = -1
            lookerOf 0 4 = -2
            lookerOf 0 -1 = -2
            lookerOf 0 3 = 0
            stands 0 8 9 0 = 2
            days 1 = 2
            lookerOf 0 3 = 9
            """);
    }

    private static void owners() {
        holds("OWNER: who has most COUNTS, if that is above 0", """
            tell p001;l00;l00;l00; = 4
            owner 0 0 = -9
            law 1 = 0
            owner 0 0 = -9
            law 2 = 1
            owner 0 0 = -9
            stands 1 0 0 0 = 1
            days 1 = 1
            owner 0 0 = 1
            owner 1 999 = -9
            law 1 = 2
            owner 0 0 = 1
            law 0 = 1
            owner 0 0 = 1
            """);
        holds("THE LAW 0: of several the least number; 1: of several nobody", """
            tell p001;l00;l00;l00;s100010;s200010;d01; = 7
            owner 0 0 = 1
            law 1 = 0
            owner 0 0 = -9
            stands 2 2 2 0 = 3
            owner 0 1 = 2
            stands 0 0 2 0 = 3
            owner 0 1 = 2
            owner 0 2 = 2
            stands 0 3 3 0 = 4
            owner 0 1 = 2
            owner 0 2 = -9
            owner 0 3 = 0
            """);
        // View 0: 2 of 4 (half), view 1: 3 of 5, view 2: 3 of 6 (half), view 3: 4 of 7, by looker 0.
        holds("THE LAW 2: just if it is more than all others' together (else nobody)", """
            tell p001;p002;p004;p008;l00;l00;l00; = 7
            stands 0 0 1 0 = 2
            stands 1 0 0 0 = 1
            stands 2 0 0 0 = 1
            stands 0 2 4 1 = 5
            stands 1 2 3 1 = 3
            stands 0 5 7 2 = 8
            stands 1 5 6 2 = 5
            stands 2 5 5 2 = 2
            stands 0 8 11 3 = 12
            stands 1 8 9 3 = 7
            stands 2 8 8 3 = 3
            law 2 = 0
            days 1 = 2
            owner 0 0 = -9
            owner 1 0 = 0
            owner 2 0 = -9
            owner 3 0 = 0
            count 4 = 2
            nobodys 0 = 245
            lookerOf 0 3 = 10
            owns 0 0 0 = 10
            owns 0 0 1 = 2
            """);
        holds("days: how many VIEWS have an OWNER", """
            tell p255;l00; = 2
            days 1 = 0
            stands 0 5 5 0 = 1
            days 1 = 8
            count 4 = 8
            """);
    }

    // ---- the terrace ----

    private static final String[] STATEMENTS = {"p255;", "l59;", "s023239;", "v79;", "w07;", "u2;", "d60;"};

    /** For each place of each statement: what no terrace can go on with, and what lacks. */
    private static void formsOfTerraces() {
        String before = "p001;l00;";
        for (String statement : STATEMENTS) {
            due(statement + " comes", new Calls.Used().tell(before + statement), 3);
            for (int at = 0; at < statement.length(); at++) {
                String start = before + statement.substring(0, at);
                int place = start.length();
                due("lacks behind " + start, new Calls.Used().tell(start), at == 0 ? 2 : -1000 - place);
                for (char letter = 0; letter < 256; letter++) {
                    boolean fits = at == 0 ? "plsvwud".indexOf(letter) >= 0
                        : at == statement.length() - 1 ? letter == ';' : letter >= '0' && letter <= '9';
                    if (!fits) {
                        due(start + " then letter " + (int) letter, new Calls.Used().tell(start + letter), -1000 - place);
                    }
                }
            }
        }
        holds("at least one STATEMENT", """
            terrace = -1000
            tell u0; = 1
            """);
        holds("FAULT: kind 1 the first letter with which no TERRACE can go on (the end, if something lacks)", """
            tell ; = -1000
            tell u0;; = -1003
            tell u = -1001
            tell u0 = -1002
            tell u0;p25 = -1006
            tell u9;x = -1003
            tell p999;l99;s999999;v99;w99;u9;d99 = -1031
            tell U0; = -1000
            tell p0001; = -1004
            tell d1; = -1002
            tell u-1; = -1001
            """);
        holds("96 letters at most", """
            tell u0;u1;u2;u0;u1;u2;u0;u1;u2;u0;u1;u2;u0;u1;u2;u0;u1;u2;u0;u1;u2;u0;u1;u2;u0;u1;u2;u0;u1;u2;u0;u1; = 32
            count 3 = 1
            """);
        holds("the 97th does not come, what is there is told", """
            again 24 feed 117
            again 72 feed 59
            feed 48 = -6
            count 7 = 96
            terrace = -1001
            count 7 = 0
            """);
        Calls.Used full = new Calls.Used();
        due("96 letters and something lacks", full.tell("d01;".repeat(23) + "d012"), -1095);
        due("the end of 96 letters", full.tell("u0;".repeat(31) + "d01"), -1096);
        due("the last of 96 letters", full.tell("u0;".repeat(31) + "d0x"), -1095);
        due("nothing came of them", full.ask("count", 2), 0);
    }

    private static void sensesOfTerraces() {
        holds("p: VIEWS 0 .. 255", """
            tell p256; = -2000
            tell p999; = -2000
            tell p000;p255; = 2
            paneOf 1 0 = 255
            """);
        holds("l: KIND 0 .. 5, FIGURE 0 .. 9", """
            tell l60; = -2000
            tell l99; = -2000
            tell l00;l59; = 2
            lookerOf 1 0 = 5
            lookerOf 1 1 = 9
            """);
        holds("s: a LOOKER, two HOURS (the first no more than the other), a PANE (9 none)", """
            tell s000009; = -2000
            tell l00;s100009; = -2004
            tell l00; = 1
            tell s100009; = -2000
            tell s900009; = -2000
            tell s000249; = -2000
            tell s024249; = -2000
            tell s024009; = -2000
            tell s000999; = -2000
            tell s001009; = -2000
            tell s023229; = -2000
            tell s000000; = -2000
            tell s000008; = -2000
            tell s000239;s023239;s000009; = 3
            tell p001;s000000;s023230; = 3
            tell s000001; = -2000
            lookerOf 0 2 = 2
            tell s000239; = 1
            lookerOf 0 2 = 0
            """);
        holds("v: a VIEW, WORTH 0 .. 9", """
            tell v80; = -2000
            tell v99; = -2000
            tell v79;v00; = 2
            worth 7 1 = 9
            worth 0 1 = 0
            """);
        holds("w: a PANE, a VIEW: it shows it, or, told again, not", """
            tell w00; = -2000
            tell p001; = 1
            tell w08; = -2000
            tell w09; = -2000
            tell w10; = -2000
            tell w97; = -2000
            tell w00;w07; = 2
            paneOf 0 0 = 128
            tell w07;w07;w07; = 3
            paneOf 0 0 = 0
            """);
        holds("u: THE LAW 0 .. 2", """
            tell u3; = -2000
            tell u9; = -2000
            tell u2; = 1
            count 3 = 2
            tell u0; = 1
            count 3 = 0
            """);
        holds("d: DAYS 1 .. 60", """
            tell d00; = -2000
            tell d61; = -2000
            tell d99; = -2000
            count 2 = 0
            tell d01;d60; = 2
            count 2 = 61
            """);
        holds("FAULT kind 2: the first STATEMENT that, behind all ahead of it in the text, is not as it must be", """
            tell l00;s000000;p001; = -2004
            count 1 = 0
            tell p001;l00;s000000;w00;w08;u3; = -2021
            count 0 = 0
            count 1 = 0
            tell u3;p256; = -2000
            tell u1;p256;u3; = -2003
            tell p256;x = -1005
            tell u1;v09;d05;p000;l00;d61; = -2020
            count 2 = 0
            count 3 = 0
            worth 0 1 = 1
            """);
        holds("with one nothing; nothing is counted; what can be TAKEN BACK stays", """
            law 2 = 0
            tell l00;u0;u3; = -2007
            tell q = -1000
            count 1 = 0
            count 3 = 2
            count 9 = 1
            count 11 = 0
            count 12 = 0
            count 13 = 0
            count 14 = 0
            count 16 = 0
            back = 0
            count 3 = 0
            """);
    }

    private static void roomForTerraces() {
        holds("no room for a PANE", """
            tell p000;p000;p000;p000;p000;p000;p000; = -2030
            count 0 = 0
            tell p000;p000;p000;p000;p000;p000; = 6
            tell u1;p000; = -2003
            count 0 = 6
            count 3 = 0
            """);
        holds("no room for a LOOKER", """
            tell l00;l00;l00;l00;l00;l00; = -2020
            count 1 = 0
            tell l00;l00;l00;l00;l00; = 5
            tell l00; = -2000
            count 1 = 5
            """);
        holds("terrace: how many STATEMENTS; the letters are no more then", """
            tell p001;l00;s000000;d02; = 4
            count 7 = 0
            count 0 = 1
            count 2 = 2
            counts 0 0 0 = 2
            terrace = -1000
            feed 117 = 1
            terrace = -1001
            count 7 = 0
            feed 49 = 1
            """);
    }

    // ---- II ----

    /** Looker 0 has 998 of view 0, then none more; looker 1 one a day: he has 999 first behind 999 days. */
    private static void daysInMind() {
        holds("n DAYS on (0 .. 999)", """
            tell p001;l00;l00;s000000; = 4
            again 10 days 99
            days 8
            stands 0 0 0 9 = 0
            stands 1 0 0 0 = 1
            counts 0 0 0 = 998
            owner 0 -1 = -4
            owner 0 0 = 0
            owner 0 998 = 0
            owner 0 999 = 1
            owner 0 1000 = -6
            owns 0 998 0 = 1
            owns 1 999 1 = 1
            owns 1 1000 0 = -6
            owns 1 -1 0 = -4
            owns 1 0 2 = -2
            nobodys 999 = 254
            nobodys 1000 = -6
            nobodys -1 = -4
            richest 998 0 = 0
            richest 999 0 = 1
            richest 1000 0 = -6
            staredOut 0 1 998 = 0
            staredOut 0 1 999 = 1
            staredOut 0 1 1000 = -6
            gap 0 998 = 0
            gap 0 999 = 1
            gap 0 1000 = -6
            even 999 = 0
            even 1000 = -6
            even -1 = -4
            heir 0 0 999 = 1
            heir 0 0 1000 = -6
            bestLaw 1 999 = 0
            bestLaw 1 1000 = -6
            count 2 = 998
            """);
        holds("FROM, LOST, AHEAD, LAST behind 999", """
            tell p001;l00;l00;s000000; = 4
            again 10 days 99
            days 8
            stands 0 0 0 9 = 0
            stands 1 0 0 0 = 1
            from 1 0 = 999
            from 0 0 = 0
            lost 0 = 999
            ahead 1 0 = 999
            ahead 0 1 = 0
            last = 999
            law 1 = 0
            from 1 0 = 999
            lost 0 = 998
            ahead 1 0 = 999
            last = 999
            """);
        holds("FROM, LOST, AHEAD, LAST: behind 1000 is too late", """
            tell p001;l00;l00;s000000; = 4
            again 10 days 99
            days 9
            stands 0 0 0 9 = 0
            stands 1 0 0 0 = 1
            from 1 0 = -9
            lost 0 = -9
            ahead 1 0 = -9
            last = 0
            owner 0 999 = 0
            law 1 = 0
            owner 0 999 = -9
            lost 0 = 999
            last = 999
            from 1 0 = -9
            """);
        holds("LOST: 1 .. 999; -9; -3 nobody owns it now", """
            tell p003;l00;l00;s000000;d01; = 5
            lost 2 = -3
            lost 7 = -3
            lost 8 = -1
            lost -1 = -1
            lost 0 = -9
            stands 1 0 2 0 = 3
            lost 0 = 1
            stands 1 2 2 9 = 2
            lost 0 = 2
            stands 1 1 1 9 = 1
            lost 0 = -9
            law 2 = 0
            lost 0 = -9
            law 1 = 2
            lost 0 = -9
            stands 1 1 1 0 = 2
            lost 0 = 1
            days 1 = 0
            lost 0 = -3
            count 13 = 3
            """);
        holds("FROM: 0 he does now, 1 a day on; -9; -1 either", """
            tell p001;l00;s000000; = 3
            from 0 0 = 1
            from 0 1 = -9
            from 0 7 = -9
            from 0 8 = -1
            from 1 0 = -1
            from -1 0 = -1
            from 0 -1 = -1
            days 1 = 1
            from 0 0 = 0
            """);
        holds("LAST without any changes, and with one", """
            last = 0
            tell p001;l00; = 2
            last = 0
            stands 0 3 3 0 = 1
            last = 1
            days 1 = 1
            last = 0
            """);
        // View 0 changes behind 6 days (5 against 1 a day), view 7 behind 3 (5 against 2 a day), by the least number.
        holds("LAST: OWNERS of all VIEWS", """
            tell p001;p128;p129;l00;l00;s000002;d05; = 7
            stands 0 0 0 9 = 0
            stands 1 0 0 0 = 1
            last = 6
            stands 1 1 2 1 = 3
            last = 6
            stands 1 3 5 0 = 6
            last = 3
            """);
    }

    private static void richestAndStaredOut() {
        holds("RICHEST: -9 without LOOKERS", """
            richest 0 0 = -9
            richest 999 1 = -9
            richest -1 0 = -4
            richest 1000 2 = -6
            richest 0 2 = -2
            richest 0 -1 = -2
            pane 255 = 0
            richest 0 0 = -9
            richest 0 1 = -9
            looker 0 0 = 0
            richest 0 0 = 0
            richest 0 1 = 0
            """);
        holds("RICHEST: of several the least; how much", """
            tell p001;p006;p128;l00;l00;l00;s100000;s200001;d01; = 9
            richest 0 0 = 2
            richest 0 1 = 2
            worth 0 2 = 1
            richest 0 0 = 1
            richest 0 1 = 2
            worth 0 0 = 2
            worth 1 0 = 1
            worth 2 0 = 1
            richest 0 0 = 0
            richest 0 1 = 0
            worth 0 9 = 0
            worth 1 9 = 0
            worth 2 9 = 0
            richest 0 1 = 18
            """);
        holds("the most WORTH there can be", """
            tell p255;l00;s000230;d01;v09;v19;v29;v39;v49;v59;v69;v79; = 12
            richest 0 1 = 72
            owns 0 0 1 = 72
            owns 0 999 0 = 255
            nobodys 0 = 0
            lookerOf 0 3 = 255
            """);
        // View 0 is looker 0's now (1), a day on looker 1's (3 to 2); then looker 0's again (7 to 3).
        holds("STARED OUT: one's of now, another one's behind n DAYS", """
            tell p001;p128;p129;l00;l00;s000000;s101011;d01; = 8
            stands 1 2 4 2 = 4
            staredOut 0 1 0 = 0
            staredOut 0 1 1 = 1
            staredOut 1 0 1 = 0
            stands 0 0 5 0 = 6
            staredOut 0 1 1 = 0
            """);
        holds("STARED OUT: not what one owns first by then", """
            tell p001;l00;l00;s000000; = 4
            staredOut 0 1 1 = 0
            owns 0 1 0 = 1
            staredOut 1 0 1 = 0
            """);
        holds("STARED OUT: -1 either (one twice); -4; -6", """
            tell p129;l00;l00;s000000;d01;s100010; = 6
            staredOut 0 0 0 = -1
            staredOut 2 0 0 = -1
            staredOut 0 2 0 = -1
            staredOut -1 0 0 = -1
            staredOut 0 -1 0 = -1
            staredOut 0 1 -1 = -4
            staredOut 0 0 -1 = -1
            staredOut 0 1 0 = 0
            staredOut 0 1 1 = 0
            staredOut 0 1 2 = 129
            staredOut 1 0 2 = 0
            """);
    }

    private static void moreHours() {
        // Looker 0 has 24 of view 0 and none more: looker 1 (a LOOKER of 24 hours) has 24 in one day, 25 first in two.
        holds("MORE HOURS: 0 he does; -9 all of them would not do; n 1 .. 999", """
            tell p001;l00;l00;s000230;d01;s000239; = 6
            moreHours 0 0 1 = 0
            moreHours 1 0 0 = -4
            moreHours 1 0 -1 = -4
            moreHours 1 0 1000 = -6
            moreHours 1 0 1 = -9
            moreHours 1 0 2 = 13
            moreHours 1 0 24 = 2
            moreHours 1 0 25 = 1
            moreHours 1 0 999 = 1
            law 1 = 0
            moreHours 1 0 1 = -9
            moreHours 1 0 2 = 13
            moreHours 2 0 0 = -1
            moreHours 0 8 0 = -1
            moreHours 0 -1 0 = -1
            """);
        holds("MORE HOURS: all 24 just do", """
            tell p001;l00;l00;s100220;d01;s100229; = 6
            moreHours 0 0 1 = 23
            law 1 = 0
            moreHours 0 0 1 = 24
            stands 0 23 23 0 = 1
            moreHours 0 0 1 = 23
            wall 0 0 = 0
            moreHours 0 0 1 = -9
            """);
        holds("MORE HOURS: -9 no PANE shows it, without PANES too", """
            tell l00; = 1
            moreHours 0 0 1 = -9
            pane 1 = 0
            moreHours 0 0 1 = 1
            moreHours 0 1 1 = -9
            moreHours 0 7 999 = -9
            """);
        holds("MORE HOURS: none is left", """
            tell p001;p002;l00;s000231; = 4
            moreHours 0 0 999 = -9
            stands 0 23 23 9 = 23
            moreHours 0 0 1 = 1
            """);
        // 7 of another one's are outdone by 4 hours of 2; but three of them are taken: 1 of 2, then 6 of 1.
        holds("MORE HOURS: those with most PULL first", """
            tell p001;p002;l00;l13;s000060;d01;s000069; = 7
            moreHours 1 0 1 = 4
            stands 1 6 16 1 = 11
            moreHours 1 0 1 = 7
            law 2 = 0
            moreHours 1 0 1 = 7
            """);
        // A STARER of 9 has 8 in hours 20 .. 23, 5 in 6 .. 17, 4 else: 33 needs 8 * 4 + 5.
        holds("MORE HOURS: a STARER's", """
            tell p001;p002;l59;l59;s018180;d08;s018189; = 7
            moreHours 1 0 1 = 5
            stands 1 20 20 1 = 1
            moreHours 1 0 1 = 5
            stands 1 21 21 1 = 2
            moreHours 1 0 1 = 6
            stands 1 22 23 1 = 4
            moreHours 1 0 1 = 7
            stands 1 6 17 1 = 16
            moreHours 1 0 1 = -9
            moreHours 1 0 2 = 5
            """);
        holds("MORE HOURS: a CHILD's odd hours do nothing", """
            tell p001;l30;l00;s100110;d01;s100239; = 6
            moreHours 0 0 1 = 12
            law 1 = 0
            moreHours 0 0 1 = -9
            moreHours 0 0 2 = 7
            """);
        holds("MORE HOURS: a SWEEP SEES no more so", """
            tell p001;l20;l00;s100050;d06; = 5
            moreHours 0 0 1 = -9
            moreHours 0 0 999 = -9
            stands 1 0 5 9 = 0
            moreHours 0 0 1 = -9
            moreHours 0 0 2 = 0
            moreHours 0 1 2 = -9
            """);
    }

    private static void panesAndHours() {
        holds("BEST PANE: of several the least (none last); without PANES none", """
            tell l00; = 1
            bestPane 0 0 999 0 = 9
            bestPane 0 0 999 1 = 0
            tell p000; = 1
            bestPane 0 0 999 0 = 0
            bestPane 0 0 0 1 = 0
            tell p001;p128;p129; = 3
            bestPane 0 0 1 0 = 3
            bestPane 0 0 1 1 = 2
            bestPane 0 23 1 0 = 3
            bestPane 0 24 0 0 = -1
            bestPane 0 -1 0 0 = -1
            bestPane 1 0 0 0 = -1
            bestPane 0 0 -1 0 = -4
            bestPane 0 0 1000 0 = -6
            bestPane 0 0 1000 2 = -6
            bestPane 0 0 0 2 = -2
            bestPane 0 0 0 -1 = -2
            worth 7 0 = 1
            bestPane 0 0 1 0 = 1
            bestPane 0 0 0 0 = 0
            stands 0 0 0 3 = 1
            bestPane 0 0 1 0 = 1
            bestPane 0 1 1 0 = 0
            """);
        holds("BEST PANE: the greatest", """
            tell p000;p000;p000;p000;p000;p128;l00;v79; = 8
            bestPane 0 23 999 0 = 5
            bestPane 0 23 999 1 = 9
            """);
        // Hours 0 and 23 at view 0; at noon at view 1; the other has 1 of view 0.
        holds("FREE HOURS: HOURS 0 .. 23, each alone; those with a PANE", """
            tell p001;p002;l00;l00;s000000;s023230;s012121;s104040; = 8
            freeHours 0 1 = 8388609
            freeHours 0 0 = 8392705
            law 1 = 0
            freeHours 0 1 = 0
            freeHours 1 1 = 16
            freeHours 1 -1 = -4
            freeHours 1 1000 = -6
            freeHours 2 -1 = -1
            stands 0 0 23 9 = 0
            freeHours 0 1 = 0
            stands 0 0 23 1 = 24
            freeHours 0 1 = 16777215
            """);
        holds("FREE HOURS: a SWEEP's", """
            tell p001;l20;s000230; = 3
            freeHours 0 1 = 16777215
            stands 0 0 22 9 = 1
            freeHours 0 1 = 8388608
            """);
    }

    private static void coversAndWalls() {
        holds("COVER: the fewest, of several the least; none", """
            cover = 0
            pane 0 = 0
            cover = 0
            pane 3 = 1
            cover = 2
            pane 12 = 2
            cover = 6
            pane 15 = 3
            cover = 8
            pane 143 = 4
            cover = 16
            pane 143 = 5
            cover = 16
            wall 4 0 = 0
            cover = 32
            """);
        holds("COVER: all six; least bits of two twos", """
            tell p001;p002;p004;p008;p016;p032; = 6
            cover = 63
            wall 0 0 = 0
            cover = 62
            """);
        holds("COVER: of several the least, though another one has a greater pane first", """
            tell p012;p003;p006;p015;p009; = 5
            cover = 8
            wall 3 0 = 0
            cover = 3
            """);
        holds("SHOWN: 0 .. 6", """
            shown 0 = 0
            shown 8 = -1
            shown -1 = -1
            tell p128;p128;p128;p128;p128;p129; = 6
            shown 7 = 6
            shown 0 = 1
            shown 1 = 0
            count 5 = 2
            """);
        holds("WALL: 10 the PANE and the VIEW; -9 none takes any; how much", """
            tell l00; = 1
            walls 0 0 0 = -9
            walls 0 999 1 = -9
            tell p000;p000;p000;p000;p000;p128;s000235; = 7
            walls 0 1 0 = 57
            walls 0 1 1 = 1
            walls 0 0 0 = -9
            walls 0 0 1 = -9
            worth 7 0 = 1
            walls 0 1 0 = -9
            walls 0 1 1 = -9
            worth 7 9 = 0
            walls 0 999 1 = 9
            walls 0 -1 0 = -4
            walls 0 1000 0 = -6
            walls 0 1 2 = -2
            walls 1 -1 0 = -1
            days 1 = 1
            walls 0 1 0 = -9
            """);
        holds("WALL: of several the least; (it shows it)", """
            tell p006;p005;l00;s000000;s001011;v09; = 6
            walls 0 1 0 = 10
            walls 0 1 1 = 9
            worth 0 1 = 9
            walls 0 1 0 = 1
            walls 0 1 1 = 1
            """);
        holds("WALL of a SWEEP: what another pane shows too is not taken", """
            tell p003;p001;l20; = 3
            walls 0 1 0 = 1
            wall 0 1 = 0
            walls 0 1 0 = -9
            """);
    }

    private static void fractions() {
        holds("SHARE: 0 over 1 of none; -1 either; -2", """
            tell p001;l00;l00;l00;s000010;s100000;d04; = 7
            share 0 0 0 = 2
            share 0 0 1 = 3
            share 1 0 0 = 1
            share 1 0 1 = 3
            share 2 0 0 = 0
            share 2 0 1 = 1
            share 0 7 0 = 0
            share 0 7 1 = 1
            share 0 8 2 = no1
            share 0 -1 0 = no1
            share 3 0 2 = no1
            share -1 0 0 = no1
            share 0 0 2 = no2
            share 0 0 -1 = no2
            count 11 = 4
            count 12 = 2
            """);
        holds("SHARE: all of it", """
            tell p128;l59;s000230;d60; = 4
            share 0 7 0 = 1
            share 0 7 1 = 1
            """);
    }

    private static void illness() {
        // One day of 8 is enough: 1 - 1 / t^8.
        holds("ILL: n 0 .. 8, t 2 .. 20", """
            tell p001;l00;s000000; = 3
            ill 0 0 -1 2 0 = no4
            ill 0 0 0 1 0 = no4
            ill 0 0 9 1 0 = no4
            ill 0 0 -1 21 0 = no4
            ill 0 0 9 2 0 = no6
            ill 0 0 8 21 0 = no6
            ill 0 0 8 20 2 = no2
            ill 0 0 8 20 -1 = no2
            ill 0 0 9 20 2 = no6
            ill 0 8 -1 2 0 = no1
            ill 1 0 -1 2 0 = no1
            ill 0 0 0 2 0 = 0
            ill 0 0 0 2 1 = 1
            ill 0 0 1 2 0 = 1
            ill 0 0 1 2 1 = 2
            ill 0 0 8 2 0 = 255
            ill 0 0 8 2 1 = 256
            ill 0 0 8 20 0 = 25599999999
            ill 0 0 8 20 1 = 25600000000
            ill 0 7 8 20 0 = 0
            ill 0 7 8 20 1 = 1
            days 1 = 1
            ill 0 0 0 20 0 = 1
            ill 0 0 0 20 1 = 1
            ill 0 0 8 20 0 = 1
            ill 0 0 8 20 1 = 1
            count 11 = 2
            count 12 = 2
            count 14 = 4
            count 16 = 3
            """);
        // Both have 99696 and 124 a day: 3 days well are enough for 99999, 2 are not: 219 of 256.
        holds("ILL: 99999 at most", """
            tell p001;l59;l59;s000230;s100230; = 5
            again 8 days 99
            days 12
            ill 0 0 8 2 0 = 219
            ill 0 0 8 2 1 = 256
            ill 0 0 2 2 0 = 1
            ill 0 0 2 2 1 = 4
            law 1 = 0
            ill 0 0 8 2 0 = 0
            """);
        holds("ILL: he alone is ill, also a SWEEP", """
            tell p001;l20;l20; = 3
            ill 0 0 1 2 0 = 1
            ill 0 0 1 2 1 = 2
            ill 1 0 1 2 0 = 0
            ill 1 0 1 2 1 = 1
            """);
        // Looker 1 has 2 a day, looker 0 one: of n days he must be well on more than half of them (by law 0).
        holds("ILL: half of the days will not do for the other one", """
            tell p001;l00;l00;s000000;s100010; = 5
            ill 1 0 1 3 0 = 2
            ill 1 0 1 3 1 = 3
            ill 1 0 2 3 0 = 4
            ill 1 0 2 3 1 = 9
            law 1 = 0
            ill 0 0 2 3 0 = 0
            ill 0 0 2 3 1 = 1
            """);
    }

    private static void twos() {
        holds("TWO: -9 without PANES; -1 any (one twice)", """
            tell l00;l00; = 2
            two 0 1 0 0 = -9
            two 0 1 23 999 = -9
            two 0 0 0 0 = -1
            two 0 2 0 0 = -1
            two 2 0 0 0 = -1
            two -1 0 0 0 = -1
            two 0 1 24 0 = -1
            two 0 1 -1 0 = -1
            two 0 1 24 -1 = -1
            two 0 1 0 -1 = -4
            two 0 1 0 1000 = -6
            pane 0 = 0
            two 0 1 0 0 = 0
            two 0 1 23 999 = 0
            """);
        holds("TWO: the first pair; the greatest", """
            tell p000;p000;p000;p000;p128;p001;l00;l00; = 8
            two 0 1 0 1 = 45
            two 1 0 0 1 = 45
            two 0 1 0 0 = 0
            worth 0 9 = 1
            two 0 1 0 1 = 54
            two 1 0 0 1 = 45
            """);
    }

    private static void rowsOfOwners() {
        holds("ROW: 12 at most; 0 .. 99", """
            row -1 = -4
            row 100 = -6
            count 8 = 0
            row 0 = 1
            row 99 = 2
            again 9 row 50 = 11
            row 100 = -6
            row 99 = 12
            row 0 = -6
            row 100 = -6
            row -1 = -4
            count 8 = 12
            clear = 12
            clear = 0
            row 0 = 1
            """);
        holds("WHICH LAW, WHICH KIND: -3 more than 8", """
            tell p001;l00; = 2
            whichLaw = 7
            whichKind 0 0 0 = 63
            whichKind 0 0 1 = 1023
            again 8 row 99 = 8
            whichLaw = 7
            whichKind 0 0 0 = 63
            whichKind 0 999 1 = 1023
            row 99 = 9
            whichLaw = -3
            whichKind 0 0 0 = -3
            whichKind 0 0 2 = -2
            whichKind 0 0 -1 = -2
            whichKind 0 1000 2 = -6
            whichKind 0 -1 2 = -4
            whichKind 1 -1 2 = -1
            again 3 row 99 = 12
            whichLaw = -3
            whichKind 0 0 1 = -3
            count 8 = 12
            count 13 = 4
            clear = 12
            whichLaw = 7
            """);
        holds("WHICH LAW: the eighth VIEW too; 99 nobody, other numbers never", """
            tell p128;l00;l00;s000000;s100000;d01; = 6
            again 7 row 99 = 7
            row 0 = 8
            whichLaw = 1
            clear = 8
            again 7 row 99 = 7
            row 99 = 8
            whichLaw = 6
            clear = 8
            again 7 row 99 = 7
            row 1 = 8
            whichLaw = 0
            clear = 8
            row 5 = 1
            whichLaw = 0
            clear = 1
            row 90 = 1
            whichLaw = 0
            """);
        // His hour 8 alone: SWEEP 5 of any view shown; CHILD 1, LOOKER 1, INVALID 2, SISTER and STARER of 9: 5.
        holds("WHICH KIND: all KINDS, all FIGURES by their bounds", """
            tell p128;l09;l00;s008080;s100010; = 5
            again 7 row 99 = 7
            row 0 = 8
            whichKind 0 1 0 = 54
            whichKind 0 1 1 = 0
            whichKind 0 0 0 = 0
            lookerOf 0 0 = 0
            lookerOf 0 1 = 9
            clear = 8
            again 7 row 99 = 7
            row 1 = 8
            whichKind 0 1 0 = 9
            whichKind 0 1 1 = 1023
            """);
        // A SISTER's hour 8 is 2 and a third of the figure: more than 4 just from figure 9 on, more than 3 from 6 on.
        holds("WHICH KIND: the greatest FIGURE", """
            tell p001;l00;l44;s000030;s108080; = 5
            row 1 = 1
            whichKind 1 1 1 = 512
            stands 0 3 3 9 = 3
            whichKind 1 1 1 = 960
            stands 0 2 2 9 = 2
            whichKind 1 1 1 = 1016
            stands 0 1 1 9 = 1
            whichKind 1 1 1 = 1023
            clear = 1
            row 0 = 1
            whichKind 1 1 1 = 0
            """);
        holds("WHICH KIND: a SWEEP's hour is of any figure within a day", """
            tell p001;l20; = 2
            row 0 = 1
            whichKind 0 1 0 = 4
            whichKind 0 1 1 = 1023
            """);
    }

    private static void judged() {
        holds("JUDGED: -9; none in the ROW then; -1 (it stays)", """
            judge 0 = -9
            tell p001;l00; = 2
            row 0 = 1
            judge 8 = -1
            judge -1 = -1
            count 8 = 1
            judge 0 = 0
            count 8 = 0
            judge 0 = -9
            row 99 = 1
            judge 7 = -9
            count 8 = 0
            """);
        // 10 of looker 0 against one a day: behind 10 days even, behind 11 looker 1's.
        holds("JUDGED: the twelfth number too", """
            tell p001;l00;l00;s000000;d10;s000009;s100000; = 7
            again 11 row 0 = 11
            row 1 = 12
            judge 0 = -9
            again 12 row 0 = 12
            judge 0 = 11
            law 1 = 0
            again 10 row 0 = 10
            row 99 = 11
            row 1 = 12
            judge 0 = -9
            again 10 row 0 = 10
            row 0 = 11
            row 1 = 12
            judge 0 = 10
            count 8 = 0
            row 98 = 1
            row 1 = 2
            judge 0 = 0
            """);
    }

    // ---- LOTS ----

    private static void lotsByNumbers() {
        holds("LOTS: n 1 .. 20; 0 without PANES", """
            lots 1 0 0 = 0
            lots 20 MAX 1 = 0
            lots 0 0 0 = -4
            lots 21 0 0 = -6
            lots 1 0 2 = -2
            lots 1 0 -1 = -2
            lots 21 0 2 = -6
            lots 0 0 2 = -4
            looker 0 0 = 0
            lots 20 5 0 = 0
            pane 129 = 0
            lots 1 MIN 0 = 2
            lots 20 MAX 0 = 40
            lots 20 -1 1 = 40
            worth 7 9 = 1
            lots 20 0 1 = 200
            lots 1 0 1 = 10
            count 6 = 0
            """);
        holds("LOTS without LOOKERS", """
            tell p255; = 1
            lots 20 1 0 = 0
            lots 20 1 1 = 0
            """);
        holds("LOTS: 99 DAYS from COUNTS of now", """
            tell p001;p128;l20;l00;s100231;d01;u2; = 7
            lots 1 7 0 = 2
            lots 20 7 0 = 40
            count 2 = 1
            """);
    }

    private static long next(long z) {
        return (z * 1103515245L + 12345L) & 0xffffffffL;
    }

    private static int drawn(long z, int n) {
        return (int) ((z & 0x7fffffffL) / 65536 % n);
    }

    /** Behind a seed: the hours of four lots. */
    private static int[] hoursOf(int seed) {
        int[] hours = new int[4];
        long z = seed;
        for (int i = 0; i < 4; i++) {
            z = next(z);
            hours[i] = drawn(z, 24);
            z = next(z);
        }
        return hours;
    }

    /** A seed whose four lots all begin in one hour. */
    private static int seedOf(int hour) {
        for (int seed = 1; seed < 50000000; seed++) {
            int[] hours = hoursOf(seed);
            if (hours[0] == hour && hours[1] == hour && hours[2] == hour && hours[3] == hour) {
                return seed;
            }
        }
        throw new IllegalStateException("no seed for hour " + hour);
    }

    private static Calls.Used told(String text) {
        Calls.Used x = new Calls.Used();
        due(text, x.tell(text) > 0 ? 1 : 0, 1);
        return x;
    }

    /**
     * Who owns view 0 behind one year's lots, the looker told (0) or a SWEEP (1): the SWEEP alone has views 0 and 1 for
     * some days, then view 1 is shown no more; so the RICHEST has 5 (view 0 is the looker's) or 7 (both are the SWEEP's).
     * The looker stands all hours now: by lots he begins with none.
     */
    private static int ownerByLots(int seed, String looker, int days) {
        Calls.Used x = told("p003;" + looker + "l21;v05;v12;");
        for (int left = days; left > 0; left -= 99) {
            x.ask("days", Math.min(99, left));
        }
        x.ask("wall", 0, 1);
        x.ask("stands", 0, 0, 23, 0);
        long worth = x.ask("lots", 1, seed, 1);
        return worth == 5 ? 0 : worth == 7 ? 1 : -1;
    }

    /** A year brings the SWEEP 495 and he has 5 of each day ahead. */
    private static void lotsBySeeds() {
        int eight = seedOf(8);
        due("LOTS: HOURS 8 .. 11, 8 a day of an INVALID: 792 to 790", ownerByLots(eight, "l10;", 59), 0);
        due("LOTS: 4 HOURS at most, 792 to 795", ownerByLots(eight, "l10;", 60), 1);
        int twenty = seedOf(20);
        due("LOTS: HOURS 20 .. 23, 32 a day of a STARER: 3168 to 3165", ownerByLots(twenty, "l59;", 534), 0);
        due("LOTS: 4 HOURS at most, 3168 to 3170", ownerByLots(twenty, "l59;", 535), 1);
        int late = seedOf(22);
        due("LOTS: HOURS 22, 23, 16 a day of a STARER: 1584 to 1580", ownerByLots(late, "l59;", 217), 0);
        due("LOTS: not beyond 23, 1584 to 1585", ownerByLots(late, "l59;", 218), 1);
        int last = seedOf(23);
        due("LOTS: HOUR 23, 8 a day of a STARER: 792 to 790", ownerByLots(last, "l59;", 59), 0);
        due("LOTS: not beyond 23, 792 to 795", ownerByLots(last, "l59;", 60), 1);
        due("LOTS: a CHILD has no PULL in HOUR 23", told("p001;l30;").ask("lots", 1, last, 0), 0);
        due("LOTS: a LOOKER has", told("p001;l00;").ask("lots", 1, last, 0), 1);
        due("LOTS: from an empty ROSTER on", told("p001;l30;s000230;").ask("lots", 1, last, 0), 0);
        yearsByLot();
    }

    /** How many of six panes' views (a view each) a CHILD owns behind a year's lots. */
    private static int childsViews(long seed) {
        int[] at = new int[24];
        long z = seed & 0xffffffffL;
        for (int i = 0; i < 4; i++) {
            z = next(z);
            int hour = drawn(z, 24);
            z = next(z);
            for (int h = hour; h < hour + 4 && h <= 23; h++) {
                at[h] = 1 << drawn(z, 6);
            }
        }
        int views = 0;
        for (int h = 0; h <= 22; h += 2) {
            views |= at[h];
        }
        return Integer.bitCount(views);
    }

    /** z wraps as an int and is drawn from without its sign's bit; each year begins empty, from COUNTS of now. */
    private static void yearsByLot() {
        String text = "p001;p002;p004;p008;p016;p032;l30;";
        int[] seeds = {Integer.MIN_VALUE, Integer.MIN_VALUE + 1, -2000000000, -65536, -2, -1, 0, 1, 2, 65535, 65536,
            1103515245, 2000000000, Integer.MAX_VALUE - 1, Integer.MAX_VALUE};
        for (int seed : seeds) {
            long z = seed & 0xffffffffL;
            int due = 0;
            Calls.Used x = told(text);
            for (int years = 1; years <= 20; years++) {
                due += childsViews(z);
                for (int i = 0; i < 8; i++) {
                    z = next(z);
                }
                due("LOTS of seed " + seed + ", " + years + " years", x.ask("lots", years, seed, 0), due);
                due("LOTS of seed " + seed + ", " + years + " years, WORTH", x.ask("lots", years, seed, 1), due);
            }
        }
    }

    // ---- III ----

    private static void takenBack() {
        holds("TAKEN BACK: 8 at most (older ones no more); -3 none", """
            back = -3
            count 9 = 0
            worth 0 0 = 1
            worth 0 2 = 0
            worth 0 3 = 2
            worth 0 4 = 3
            worth 0 5 = 4
            worth 0 6 = 5
            worth 0 7 = 6
            worth 0 8 = 7
            count 9 = 8
            worth 0 9 = 8
            count 9 = 8
            back = 7
            back = 6
            back = 5
            back = 4
            back = 3
            back = 2
            back = 1
            count 9 = 1
            back = 0
            back = -3
            back = -3
            worth 0 1 = 0
            back = 0
            count 13 = 3
            """);
        holds("TAKEN BACK: the latest first, all four, many of them ahead", """
            tell p000;l00; = 2
            again 10 law 1
            law 2 = 1
            stands 0 0 3 0 = 4
            stands 0 2 5 9 = 2
            wall 0 7 = 1
            worth 7 4 = 1
            law 0 = 2
            stands 0 0 23 0 = 24
            count 9 = 8
            back = 7
            lookerOf 0 2 = 2
            back = 6
            count 3 = 2
            back = 5
            worth 7 9 = 1
            back = 5
            back = 4
            paneOf 0 0 = 0
            back = 3
            lookerOf 0 2 = 4
            roster 0 3 = 0
            roster 0 5 = -9
            back = 2
            lookerOf 0 2 = 0
            back = 1
            count 3 = 1
            back = 0
            count 3 = 1
            back = -3
            """);
        holds("TAKEN BACK: each counts, also if all stays as it was", """
            tell p001;l00; = 2
            law 0 = 0
            count 9 = 1
            worth 0 1 = 1
            count 9 = 2
            stands 0 0 23 9 = 0
            count 9 = 3
            stands 0 7 7 0 = 1
            stands 0 7 7 0 = 1
            count 9 = 5
            wall 0 0 = 0
            wall 0 0 = 1
            count 9 = 7
            back = 6
            paneOf 0 0 = 0
            back = 5
            paneOf 0 0 = 1
            back = 4
            roster 0 7 = 0
            back = 3
            roster 0 7 = -9
            back = 2
            back = 1
            back = 0
            back = -3
            """);
        holds("TAKEN BACK: one more behind some taken back", """
            worth 3 5 = 1
            worth 3 6 = 5
            worth 3 7 = 6
            back = 2
            worth 3 8 = 6
            count 9 = 3
            back = 2
            back = 1
            worth 3 0 = 5
            back = 1
            back = 0
            worth 3 0 = 1
            """);
    }

    /** Behind a change that is taken back all is as it was, whichever it was. */
    private static void takenBackWhole() {
        String ahead = """
            tell p003;p012;p048;l13;l00;l29;s009101;s100051;s212122;v15;v27;u1;d02;
            image
            pane 192
            wall 1 1
            worth 6 4
            stands 1 20 23 3
            law 2
            row 1
            feed 117
            """;
        String was = Calls.portraitBehind(ahead);
        String[] changes = {"stands 0 9 9 9", "stands 0 0 23 0", "stands 1 0 23 2", "stands 1 3 3 3", "stands 2 0 0 0",
            "stands 2 12 23 9", "wall 0 0", "wall 0 7", "wall 1 1", "wall 2 5", "wall 3 0", "worth 0 9", "worth 1 0",
            "worth 2 7", "worth 7 3", "law 0", "law 1", "law 2"};
        for (String change : changes) {
            String is = Calls.portraitBehind(ahead + change + "\nback\n");
            if (!is.equals(was)) {
                System.out.println(change + " taken back: was " + was + "\n  is " + is);
            }
            due(change + ", taken back", is.equals(was) ? 1 : 0, 1);
        }
    }

    private static void takenBackNoMore() {
        holds("what is refused, only asks, or is not of part I leaves what can be TAKEN BACK", """
            law 2 = 0
            pane -1 = -4
            pane 256 = -6
            looker 6 0 = -2
            looker 0 -1 = -4
            looker 0 10 = -6
            days 0 = -4
            days 100 = -6
            terrace = -1000
            tell u0;u3; = -2003
            tell u0;u = -1004
            restore = -3
            stands 0 0 0 9 = -1
            wall 0 0 = -1
            worth 8 0 = -1
            worth 0 -1 = -4
            worth 0 10 = -6
            law 3 = -2
            image = 0
            row 3 = 1
            judge 0 = 0
            clear = 0
            feed 9 = 1
            terrace = -1000
            lots 5 5 0 = 0
            last = 0
            count 9 = 1
            back = 0
            count 3 = 0
            """);
        holds("refused for want of room, too", """
            tell p000;p000;p000;p000;p000;p000;l00;l00;l00;l00;l00; = 11
            again 101 days 99
            law 2 = 0
            pane 0 = -6
            looker 0 0 = -6
            days 1 = -6
            tell p000; = -2000
            tell l00; = -2000
            tell d01; = -2000
            stands 0 2 1 9 = -3
            count 9 = 1
            back = 0
            """);
        holds("pane(), looker(), days(), a TERRACE without FAULT, restore() leave none", """
            image = 0
            law 1 = 0
            pane 0 = 0
            back = -3
            law 1 = 1
            looker 0 0 = 0
            count 9 = 0
            back = -3
            law 1 = 1
            days 1 = 0
            back = -3
            law 1 = 1
            tell v01; = 1
            back = -3
            law 2 = 1
            law 1 = 2
            restore = 0
            count 9 = 0
            back = -3
            count 3 = 0
            count 13 = 5
            """);
    }

    private static void rostersTogether() {
        holds("BUSY: of several the first; nobody", """
            busy 0 = 0
            busy 1 = 0
            busy 2 = -2
            busy -1 = -2
            tell p001;p001;l00;l20; = 4
            busy 0 = 0
            busy 1 = 0
            stands 0 23 23 0 = 1
            busy 0 = 23
            busy 1 = 1
            stands 1 22 23 1 = 2
            busy 0 = 23
            busy 1 = 2
            stands 0 22 22 1 = 2
            busy 0 = 22
            stands 0 0 0 0 = 3
            busy 0 = 22
            stands 1 0 0 0 = 3
            busy 0 = 0
            busy 1 = 2
            """);
        holds("BUSY: all five; HOURS of all", """
            tell p001;l00;l10;l20;l30;l40;s000230;s100230;s200230;s300230;s400230; = 11
            busy 0 = 0
            busy 1 = 5
            count 6 = 120
            paneOf 0 1 = 120
            """);
        holds("TOGETHER: HOURS 0 .. 23 at one PANE; -1 either (one twice)", """
            tell p001;p001;l00;l00; = 4
            together 0 1 = 0
            stands 0 0 0 0 = 1
            together 0 1 = 0
            stands 1 0 0 0 = 1
            stands 0 23 23 1 = 2
            stands 1 23 23 1 = 2
            stands 0 5 5 0 = 3
            stands 1 5 5 1 = 3
            together 0 1 = 8388609
            together 1 0 = 8388609
            together 0 0 = -1
            together 0 2 = -1
            together 2 0 = -1
            together -1 0 = -1
            stands 0 0 23 1 = 24
            stands 1 0 23 1 = 24
            together 0 1 = 16777215
            """);
        holds("SWAP: -9 without two; -4; -6", """
            swap 0 = -9
            swap -1 = -4
            swap 1000 = -6
            tell p001;l00; = 2
            swap 999 = -9
            looker 0 0 = 1
            stands 0 0 9 0 = 10
            swap 0 = -9
            swap 999 = -9
            """);
        // Looker 0 has 10 a day; 5 hours of looker 3 do not do, the STARER 4 would have 20 by them; so would 2 have.
        holds("SWAP: the last two; of several the first", """
            tell p001;l00;l00;l00;l00;l59;s000090;s300040; = 8
            swap 999 = 34
            swap 1 = 34
            swap 0 = -9
            worth 0 0 = 1
            swap 1 = -9
            worth 0 9 = 0
            swap 1 = 34
            tell s400089;s300049; = 2
            swap 1 = -9
            """);
        holds("SWAP: of several the first", """
            tell p001;l00;l00;l59;l00;l59;s000090;s300040; = 8
            swap 1 = 23
            """);
        // The STARER's single hour 0 (4), or 23 (8), outdoes 3 of looker 0; the hour of looker 1 does not.
        holds("SWAP: HOURS 0 and 23 too", """
            tell p001;l00;l00;l59;s009110;s100000; = 6
            swap 1 = 12
            stands 1 0 0 9 = 0
            swap 1 = -9
            stands 1 23 23 0 = 1
            swap 1 = 12
            roster 1 23 = 0
            roster 2 23 = -9
            """);
        holds("EVEN: none, one, all five", """
            even 0 = 0
            looker 0 0 = 0
            even 999 = 0
            looker 0 0 = 1
            even 0 = 1
            looker 0 0 = 2
            even 0 = 3
            looker 0 0 = 3
            looker 0 0 = 4
            even 0 = 10
            pane 1 = 0
            stands 4 0 0 0 = 1
            even 0 = 10
            even 1 = 6
            worth 0 0 = 1
            even 1 = 10
            """);
    }

    private static void heirs() {
        // Looker 0: views 0 and 1 (2); looker 1: view 2 (2); looker 2: view 3 (3).
        holds("EVEN, AHEAD: by the WORTH of all VIEWS", """
            tell p003;p004;p008;l00;l00;l00;s000000;s100001;s200002;v22;v33; = 11
            even 1 = 1
            ahead 0 1 = -9
            ahead 1 0 = -9
            ahead 2 0 = 1
            ahead 2 1 = 1
            ahead 0 2 = -9
            worth 3 1 = 3
            ahead 0 2 = 1
            ahead 2 0 = -9
            even 1 = 1
            worth 0 9 = 1
            ahead 0 1 = 1
            ahead 1 0 = -9
            even 1 = 0
            """);
        // Looker 1 has view 0 (5), looker 0 view 1 (3): told in the other order of VIEWS.
        holds("EVEN, AHEAD: the greater WORTH first", """
            tell p001;p002;l00;l00;s000001;s100000;v05;v13; = 8
            ahead 0 1 = -9
            ahead 1 0 = 1
            even 1 = 0
            """);
        holds("HEIR: -9; -1 either; -4; -6", """
            tell p001;l00;l00;s000010;s100000;d05; = 6
            heir 0 0 0 = 1
            heir 1 0 0 = 0
            heir 0 1 0 = -9
            heir 0 7 999 = -9
            heir 0 0 -1 = -4
            heir 0 0 1000 = -6
            heir 0 8 -1 = -1
            heir 2 0 0 = -1
            heir -1 0 0 = -1
            heir 0 -1 0 = -1
            """);
        holds("HEIR: nobody else; his ROSTER empty", """
            tell p001;l00;s000230;d01; = 4
            heir 0 0 0 = -9
            heir 0 0 999 = -9
            owner 0 999 = 0
            """);
        holds("HEIR: a SWEEP looks on", """
            tell p001;l20;d01; = 3
            heir 0 0 0 = -9
            heir 0 0 1 = 0
            """);
    }

    // ---- IV ----

    private static void jointsAndRanks() {
        holds("JOINT: more than any other one; -1 either (one twice)", """
            tell p001;p128;l00;l00;l00;s000000;s001011;s102020;s204050;d01; = 10
            joint 0 1 0 = 128
            joint 0 2 0 = 129
            joint 1 2 0 = 1
            joint 0 0 0 = -1
            joint 3 0 0 = -1
            joint 0 3 0 = -1
            joint -1 0 0 = -1
            joint 0 1 -1 = -4
            joint 0 1 1000 = -6
            joint 0 0 1000 = -1
            """);
        holds("JOINT: of all VIEWS where there is no other one", """
            tell p001;l00;l00; = 3
            joint 0 1 0 = 255
            joint 1 0 999 = 255
            looker 0 0 = 2
            joint 0 1 0 = 0
            """);
        holds("RANK: of several the least number; -9; -4", """
            rank 0 0 = -9
            rank 0 -1 = -4
            rank 8 -1 = -1
            rank -1 0 = -1
            tell p001;l00;l00;l00;l00;l00;s200010;s400020;s100010;d01; = 10
            rank 0 0 = 4
            rank 0 1 = 1
            rank 0 2 = 2
            rank 0 3 = 0
            rank 0 4 = 3
            rank 0 5 = -9
            rank 0 MAX = -9
            rank 0 MIN = -4
            rank 7 0 = 0
            rank 7 4 = 4
            """);
        holds("GAP: the most, if there is one LOOKER; 0 none", """
            gap 0 0 = 0
            gap 7 999 = 0
            gap 8 0 = -1
            gap -1 -1 = -1
            gap 0 -1 = -4
            gap 0 1000 = -6
            tell p128;l00;s000020; = 3
            gap 7 0 = 0
            gap 7 999 = 2997
            looker 0 0 = 1
            gap 7 999 = 2997
            stands 1 0 0 0 = 1
            gap 7 999 = 1998
            looker 0 0 = 2
            stands 2 0 2 0 = 3
            gap 7 999 = 0
            stands 2 3 3 0 = 4
            gap 7 999 = 999
            """);
    }

    private static void hoursLost() {
        holds("WASTED, IDLE: HOURS 0 .. 23", """
            tell p001;l30;l00;l29; = 4
            wasted 0 0 = 0
            wasted 0 1 = 5592405
            wasted 1 0 = 0
            wasted 1 1 = 16777215
            wasted 2 1 = 131072
            stands 0 23 23 0 = 1
            wasted 0 0 = 8388608
            stands 0 0 23 0 = 24
            wasted 0 0 = 11184810
            wasted 0 1 = 0
            stands 1 0 0 0 = 1
            wasted 1 0 = 0
            wasted 1 1 = 16777214
            stands 1 23 23 0 = 2
            wasted 1 1 = 8388606
            stands 2 0 23 0 = 24
            wasted 2 0 = 16646143
            wasted 2 1 = 0
            wasted 3 2 = -1
            wasted -1 0 = -1
            wasted 0 2 = -2
            wasted 0 -1 = -2
            """);
        holds("AHEAD: -9; -1 either (one twice)", """
            tell p001;p002;l00;l00;s000000;s100001; = 6
            ahead 0 1 = -9
            ahead 0 0 = -1
            ahead 0 2 = -1
            ahead 2 0 = -1
            ahead -1 0 = -1
            worth 1 2 = 1
            ahead 1 0 = 1
            ahead 0 1 = -9
            days 1 = 2
            ahead 1 0 = 0
            """);
    }

    private static void laws() {
        holds("BEST LAW: of several the least", """
            tell l00; = 1
            law 2 = 0
            bestLaw 0 0 = 0
            bestLaw 0 999 = 0
            bestLaw 0 -1 = -4
            bestLaw 0 1000 = -6
            bestLaw 1 0 = -1
            bestLaw -1 -1 = -1
            count 3 = 2
            law -1 = -2
            """);
        holds("law, worth: what it was, also where it stays", """
            law 1 = 0
            law 1 = 1
            worth 4 6 = 1
            worth 4 6 = 6
            worth 4 10 = -6
            worth 4 -1 = -4
            worth 8 10 = -1
            worth -1 -1 = -1
            worth 4 0 = 6
            """);
    }

    private static void newcomers() {
        holds("NEWCOMER behind 999", """
            tell p128;p129;l00;s000230; = 4
            again 10 days 99
            days 8
            stands 0 0 23 9 = 0
            newcomer 0 0 0 = 999
            newcomer 0 0 1 = 7
            newcomer 0 1 0 = 1
            newcomer 0 1 1 = 0
            newcomer 3 0 0 = -9
            newcomer 3 0 1 = -9
            newcomer 1 0 0 = 666
            law 2 = 0
            newcomer 0 0 0 = 999
            """);
        holds("NEWCOMER: behind 1000 is too late", """
            tell p128;l00;s000230; = 3
            again 10 days 99
            days 9
            stands 0 0 23 9 = 0
            newcomer 0 0 0 = -9
            newcomer 0 0 1 = -9
            """);
        // 60 a day each: 5 hours of a STARER of 5 in 20 .. 23 and so on do more: 12 * 3 + 8 * 2 + 4 * 4 = 68.
        holds("NEWCOMER: FIGURE 5", """
            tell p001;l45;s000230;u1; = 4
            newcomer 4 0 0 = -9
            newcomer 5 0 0 = 1
            newcomer 1 0 0 = -9
            days 1 = 1
            newcomer 5 0 0 = 8
            stands 0 0 23 9 = 0
            newcomer 4 0 0 = 2
            newcomer 2 0 0 = 13
            """);
        holds("NEWCOMER: -1 the PANE; -2 (KIND, what); -3 5 LOOKERS there are", """
            newcomer 0 0 0 = -1
            newcomer 6 0 2 = -1
            tell p001;l00;l00;l00;l00; = 5
            newcomer 0 1 0 = -1
            newcomer 0 9 0 = -1
            newcomer 0 -1 0 = -1
            newcomer -1 0 0 = -2
            newcomer 6 0 0 = -2
            newcomer 0 0 2 = -2
            newcomer 0 0 -1 = -2
            newcomer 5 0 1 = 0
            newcomer 0 0 0 = 1
            looker 0 0 = 4
            newcomer 0 0 0 = -3
            newcomer 0 0 1 = -3
            newcomer 6 0 0 = -2
            newcomer 0 0 2 = -2
            newcomer 0 1 0 = -1
            """);
    }

    private static void seenAndDuels() {
        holds("MOST SEEN: of several the least; nothing; -2", """
            mostSeen 0 = 0
            mostSeen 1 = 0
            mostSeen 2 = -2
            mostSeen -1 = -2
            tell p128;p064;l00;l59; = 4
            mostSeen 0 = 0
            mostSeen 1 = 0
            stands 0 0 0 0 = 1
            mostSeen 0 = 7
            mostSeen 1 = 1
            stands 1 20 20 1 = 1
            mostSeen 0 = 6
            mostSeen 1 = 8
            stands 0 1 7 0 = 8
            mostSeen 0 = 6
            stands 0 8 8 0 = 9
            mostSeen 0 = 7
            mostSeen 1 = 9
            """);
        holds("MOST SEEN: COUNTS that a DAY brings, though they are 99999", """
            tell p001;p128;l59;l00;s000230;s100001; = 6
            again 9 days 99
            mostSeen 1 = 124
            """);
        holds("DUELS: 0 .. 8; -1 either (one twice)", """
            tell p255;p000;l00;l30;l20; = 5
            duels 0 1 = 0
            stands 0 1 1 0 = 1
            stands 1 1 1 0 = 1
            duels 0 1 = 0
            duels 0 2 = 8
            duels 1 2 = 0
            stands 1 2 2 0 = 2
            duels 0 1 = 8
            duels 1 0 = 8
            stands 0 1 1 1 = 1
            duels 0 1 = 0
            duels 0 0 = -1
            duels 3 0 = -1
            duels 0 3 = -1
            duels -1 0 = -1
            """);
    }

    private static void images() {
        holds("IMAGE, RESTORED: -3 there is none; DAY", """
            restore = -3
            restore = -3
            image = 0
            restore = 0
            days 7 = 0
            image = 7
            days 99 = 0
            restore = 7
            count 2 = 7
            count 13 = 2
            """);
        holds("THE IMAGE of a new object", """
            image = 0
            tell p255;l59;s000230;v09;v73;u2;d60; = 7
            restore = 0
            count 0 = 0
            count 1 = 0
            count 2 = 0
            count 3 = 0
            worth 0 1 = 1
            worth 7 1 = 1
            pane 0 = 0
            paneOf 0 0 = 0
            looker 0 0 = 0
            lookerOf 0 2 = 0
            roster 0 0 = -9
            roster 0 23 = -9
            counts 0 0 0 = 0
            counts 0 7 0 = 0
            """);
        holds("THE IMAGE: all that there is of I, but letters, the ROW, REFUSALS", """
            tell p003;l13;s009100;v05;u1;d02; = 6
            feed 117 = 1
            row 4 = 1
            law 3 = -2
            image = 2
            terrace = -1001
            tell p001;l00;s000230;s100230;v06;u2;d01; = 7
            wall 0 1 = 0
            row 5 = 2
            feed 117 = 1
            feed 50 = 2
            law 3 = -2
            restore = 2
            count 0 = 1
            count 1 = 1
            count 3 = 1
            count 7 = 2
            count 8 = 2
            count 9 = 0
            count 12 = 2
            paneOf 0 0 = 3
            lookerOf 0 2 = 2
            counts 0 0 0 = 8
            counts 0 1 0 = 8
            owner 0 0 = 0
            worth 0 5 = 5
            feed 59 = 3
            terrace = 1
            count 3 = 2
            """);
        holds("THE IMAGE stays as it was taken", """
            tell p001;l00; = 2
            image = 0
            law 1 = 0
            restore = 0
            law 2 = 0
            stands 0 0 23 0 = 24
            days 9 = 1
            restore = 0
            count 3 = 0
            lookerOf 0 2 = 0
            counts 0 0 0 = 0
            back = -3
            """);
    }

    private static void counted() {
        holds("count: -9 for another what; it is no refusal", """
            count -1 = -9
            count 10 = -9
            count 17 = -9
            count MIN = -9
            count MAX = -9
            count 0 = 0
            count 9 = 0
            count 11 = 0
            count 12 = 0
            count 13 = 0
            count 14 = 0
            count 15 = 0
            count 16 = 0
            """);
        holds("count: REFUSALS -1 .. -6, each under its own", """
            wall 0 0 = -1
            law 3 = -2
            law 4 = -2
            back = -3
            restore = -3
            lost 0 = -3
            days 0 = -4
            days -1 = -4
            days -2 = -4
            days -3 = -4
            feed 256 = -6
            feed 257 = -6
            feed 258 = -6
            feed 259 = -6
            feed 260 = -6
            share 0 0 0 = no1
            ill 0 0 0 2 0 = no1
            terrace = -1000
            rank 0 0 = -9
            count 11 = 3
            count 12 = 2
            count 13 = 3
            count 14 = 4
            count 15 = 0
            count 16 = 5
            """);
        holds("count: the greatest of all", """
            tell p001;p002;p004;p008;p016;p224;l50;l50;l50;l50;l50; = 11
            stands 0 0 23 0 = 24
            stands 1 0 23 1 = 24
            stands 2 0 23 2 = 24
            stands 3 0 23 3 = 24
            stands 4 0 23 5 = 24
            count 4 = 0
            days 1 = 7
            count 0 = 6
            count 1 = 5
            count 4 = 7
            count 5 = 8
            count 6 = 120
            wall 0 1 = 1
            wall 0 0 = 0
            count 5 = 7
            count 4 = 7
            """);
    }
}
