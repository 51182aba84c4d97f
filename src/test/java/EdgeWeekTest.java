import java.util.Arrays;

/** Boundary cases of OWED, SHORT, TRY (Terms, V), and of promises 37 to 40 and 45. */
final class EdgeWeekTest {
    private static final int LEAST = Integer.MIN_VALUE;
    private static final int MOST = Integer.MAX_VALUE;
    private static final String ALWAYS = " from 0; binds if 0 == 0; ";

    public static void main(String[] args) {
        halvesWithTasks();
        halvesUnknown();
        halvesUnbound();
        halvesUnnamed();
        halvesOfNoSuchOnes();
        owed();
        owedOfOthers();
        shortOfEachWeek();
        shortSetOff();
        shortOfNoSuchOnes();
        tryAtFirms();
        tryOfTenPeople();
        tryInWeeks();
        tryOfNames();
        tryWhereItIs();
        tryWhateverIsTold();
        tryTies();
        tryEdges();
        tryOfNoSuchOnes();
        tryChangesNothing();
        turned();
        turnedOfNoSuchOnes();
        Check.end();
    }

    /** A town, two firms; two people at the first, one at the second. */
    private static WageCourt court(String... texts) {
        WageCourt x = new WageCourt();
        x.town();
        x.firm(0, 0);
        x.firm(0, 1);
        x.person(0, 0, 0);
        x.person(0, 0, 0);
        x.person(1, 0, 0);
        for (String text : texts) {
            Check.tell(x, text);
        }
        return x;
    }

    /** What halves() tells of a WEEK, for what 0 .. 4. */
    private static void halves(String when, WageCourt x, int person, int week, int n, int... due) {
        for (int what = 0; what < 5; what++) {
            Check.due("halves, what " + what + ", " + when, x.halves(person, week, n, what), due[what]);
        }
    }

    private static void halvesWithTasks() {
        Check.holds("Promise 37", "Of a PERSON's WEEK, as KNOWN by n, how many HALVES: what 0 have a TASK,");
        WageCourt x = court("award a" + ALWAYS + "class c tasks 0,1,2,15 margin 100;");
        halves("without a row", x, 0, 0, 1, 0, 0, 0, 0, 0);
        Check.row(x, 0, 0, 0, 0, 15, 16, -1);
        halves("one row", x, 0, 0, 2, 2, 0, 0, 0, 0);
        int[] full = new int[48];
        Arrays.fill(full, 1);
        for (int day = 6; day < 15; day++) {
            Check.row(x, 0, day, 0, full);
        }
        int n = x.count(3);
        halves("the first and the last day", x, 0, 0, n, 50, 0, 0, 0, 0);
        halves("seven full days", x, 0, 1, n, 336, 0, 0, 0, 0);
        halves("the day behind", x, 0, 2, n, 48, 0, 0, 0, 0);
        halves("as known one less", x, 0, 1, n - 2, 288, 0, 0, 0, 0);
        halves("another person", x, 1, 1, n, 0, 0, 0, 0, 0);
        halves("the last week", x, 0, 19, n, 0, 0, 0, 0, 0);
    }

    private static void halvesUnknown() {
        Check.holds("Promise 37", "1 are UNKNOWN,");
        WageCourt x = court("award a" + ALWAYS + "class c tasks 1 margin 100;");
        for (int day = 0; day < 7; day++) {
            x.row(0, day, -1);
        }
        halves("all missing", x, 0, 0, 8, 0, 336, 0, 0, 0);
        halves("none missing yet", x, 0, 0, 1, 0, 0, 0, 0, 0);
        x.row(0, 3, 48);
        halves("one told anew", x, 0, 0, 9, 0, 288, 0, 0, 0);
        x.row(0, 3, 47);
        x.cell(46, 1);
        halves("one short by one", x, 0, 0, 10, 1, 289, 0, 0, 0);
        x.row(0, 3, 1);
        x.cell(0, 1);
        halves("one with one cell", x, 0, 0, 11, 1, 335, 0, 0, 0);
        halves("the next week", x, 0, 1, 11, 0, 0, 0, 0, 0);
    }

    private static void halvesUnbound() {
        Check.holds("Promise 37", "2 have a TASK and are BOUND by no award, 3 are in a QUARREL,");
        WageCourt x = court("award a from 1; binds if half < 4; class c tasks 1 margin 100;",
                "award b from 2; binds if half == 3 or half == 4; class c tasks 1 margin 100;",
                "agree a firm 0" + ALWAYS + "class c tasks 1 margin 100;");
        for (int day = 0; day < 3; day++) {
            Check.row(x, 0, day, 0, 1, 16, -1, 1, 1, 1);
        }
        halves("all", x, 0, 0, 6, 12, 0, 4 + 2 + 1, 1, 0);
        halves("b not known", x, 0, 0, 5, 8, 0, 4 + 2, 0, 0);
        x.stay(0, 1, 2);
        halves("a stayed on day 1", x, 0, 0, 7, 12, 0, 4 + 4 + 1, 1, 0);
        x.stay(0, 2, 3);
        halves("a stayed on day 2", x, 0, 0, 8, 12, 0, 4 + 4 + 2, 0, 0);
        halves("no award known", x, 0, 0, 0, 0, 0, 0, 0, 0);
    }

    private static void halvesUnnamed() {
        Check.holds("Promise 37", "4 are UNNAMED and not paid.");
        WageCourt x = court("award a from 0; binds if half < 10; class c tasks 1 margin 100; class d tasks 2 margin 0;");
        Check.row(x, 0, 0, 0, 1, 2, 3, 4, 3, 16, -1);
        x.cell(10, 3);
        halves("without an agree", x, 0, 0, 2, 6, 0, 1, 0, 3);
        Check.tell(x, "agree a firm 0 from 0; binds if half < 4; class e tasks 3 margin 5; class f tasks 4 margin 0;");
        halves("with an agree that pays one", x, 0, 0, 3, 6, 0, 1, 0, 2);
        halves("as known", x, 0, 0, 2, 6, 0, 1, 0, 3);
        x.stay(2, 0, 1);
        halves("with an agree that is stayed", x, 0, 0, 4, 6, 0, 1, 0, 3);
        Check.tell(x, "award g from 0; binds if half == 2;");
        halves("one in a quarrel", x, 0, 0, 5, 6, 0, 1, 1, 2);
    }

    private static void halvesOfNoSuchOnes() {
        Check.holds("Promise 37", "NONE: no such ones.");
        WageCourt x = court("award a" + ALWAYS + "class c tasks 1 margin 100;");
        Check.row(x, 0, 0, 0, 1);
        int[][] wrong = {{-1, 0, 2, 0}, {3, 0, 2, 0}, {LEAST, 0, 2, 0}, {MOST, 0, 2, 0}, {0, -1, 2, 0}, {0, 20, 2, 0},
            {0, LEAST, 2, 0}, {0, MOST, 2, 0}, {0, 0, -1, 0}, {0, 0, 3, 0}, {0, 0, LEAST, 0}, {0, 0, MOST, 0}, {0, 0, 2, -1},
            {0, 0, 2, 5}, {0, 0, 2, LEAST}, {0, 0, 2, MOST}};
        for (int[] w : wrong) {
            Check.due("halves" + Arrays.toString(w), x.halves(w[0], w[1], w[2], w[3]), -1);
        }
        halves("the last ones", x, 2, 19, 2, 0, 0, 0, 0, 0);
    }

    private static void owed() {
        Check.holds("Terms", "OWED for a WEEK: PAY less all PAYMENTS for it (KNOWN).");
        Check.holds("Promise 38", "OWED to a PERSON for a WEEK, as KNOWN by n (below 0: paid too much);");
        WageCourt x = court("award a" + ALWAYS + "class c tasks 1 margin 200;");
        Check.row(x, 0, 0, 0, 1);
        Check.row(x, 0, 139, 0, 1);
        int[][] told = {{0, 0, 99}, {0, 0, 1}, {0, 0, 1}, {1, 0, 50}, {0, 1, 7}, {0, 19, 100}, {0, 0, -99999}, {0, 0, 99999},
            {0, 0, 0}};
        int[] due = {1, 0, -1, -1, -1, -1, 99998, -1, -1};
        for (int i = 0; i < told.length; i++) {
            x.paid(told[i][0], told[i][1], told[i][2]);
            Check.due("owed by " + (4 + i), x.owed(0, 0, 4 + i), due[i]);
        }
        int n = x.count(3);
        Check.due("owed by 3", x.owed(0, 0, 3), 100);
        Check.due("owed by 2", x.owed(0, 0, 2), 100);
        Check.due("owed by 1", x.owed(0, 0, 1), 0);
        Check.due("owed to another", x.owed(1, 0, n), -50);
        Check.due("owed for another week", x.owed(0, 1, n), -7);
        Check.due("owed for the last week", x.owed(0, 19, n), 0);
        Check.due("owed for the last week by 8", x.owed(0, 19, 8), 100);
        WageCourt y = court();
        for (int i = 0; i < 160; i++) {
            y.paid(0, 0, i < 80 ? 99999 : -99999);
        }
        Check.due("owed after 80 payments", y.owed(0, 0, 80), -7999920);
        Check.due("owed after 160 payments", y.owed(0, 0, 160), 0);
        WageCourt z = court();
        for (int i = 0; i < 160; i++) {
            z.paid(0, 0, -99999);
        }
        Check.due("owed after 160 payments below 0", z.owed(0, 0, 160), 15999840);
    }

    private static void owedOfOthers() {
        Check.holds("Promise 38", "0 for others.");
        WageCourt x = court();
        x.paid(0, 0, 5);
        x.paid(2, 19, 6);
        int[][] wrong = {{-1, 0, 2}, {3, 0, 2}, {LEAST, 0, 2}, {MOST, 0, 2}, {0, -1, 2}, {0, 20, 2}, {0, LEAST, 2},
            {0, MOST, 2}, {0, 0, -1}, {0, 0, 3}, {0, 0, LEAST}, {0, 0, MOST}};
        for (int[] w : wrong) {
            Check.due("owed" + Arrays.toString(w), x.owed(w[0], w[1], w[2]), 0);
        }
        Check.due("owed", x.owed(0, 0, 2), -5);
        Check.due("owed to the last ones", x.owed(2, 19, 2), -6);
    }

    /** WEEKS 0 .. 3 of person 0 with OWED 40, -70, 0, 30, and 25 in the last WEEK. */
    private static WageCourt withWeeks() {
        WageCourt x = court("award a" + ALWAYS + "class c tasks 1 margin 200;");
        int[] paid = {60, 170, 100, 70};
        for (int week = 0; week < 4; week++) {
            Check.row(x, 0, 7 * week + week, 0, 1);
            x.paid(0, week, paid[week]);
        }
        x.paid(0, 19, -25);
        return x;
    }

    private static void shortOfEachWeek() {
        Check.holds("Terms", "SHORT for WEEKS a .. b: what is OWED above 0, of each WEEK;");
        WageCourt x = withWeeks();
        int n = x.count(3);
        int[][] due = {{0, 0, 40}, {1, 1, 0}, {2, 2, 0}, {3, 3, 30}, {0, 1, 40}, {0, 3, 70}, {1, 3, 30}, {1, 2, 0}, {4, 18, 0},
            {19, 19, 25}, {0, 19, 95}, {18, 19, 25}, {4, 4, 0}};
        for (int[] d : due) {
            Check.due("short of " + d[0] + " .. " + d[1], x.shorted(0, d[0], d[1], false, n), d[2]);
            Check.due("short of another person", x.shorted(1, d[0], d[1], false, n), 0);
        }
        Check.due("short as known, the last row not paid yet", x.shorted(0, 0, 3, false, n - 2), 140);
        Check.due("short by 2", x.shorted(0, 0, 19, false, 2), 100);
        Check.due("short by 0", x.shorted(0, 0, 19, false, 0), 0);
    }

    private static void shortSetOff() {
        Check.holds("Terms", "with SET OFF: all OWED together, at least 0.");
        WageCourt x = withWeeks();
        int n = x.count(3);
        int[][] due = {{0, 0, 40}, {1, 1, 0}, {2, 2, 0}, {3, 3, 30}, {0, 1, 0}, {0, 3, 0}, {1, 3, 0}, {2, 3, 30}, {19, 19, 25},
            {0, 19, 25}, {1, 19, 0}, {2, 19, 55}};
        for (int[] d : due) {
            Check.due("short with set off of " + d[0] + " .. " + d[1], x.shorted(0, d[0], d[1], true, n), d[2]);
        }
        int[] paid = {1, -1, -1, 2};
        int[] then = {24, 25, 26, 24};
        for (int i = 0; i < 4; i++) {
            x.paid(0, 5, paid[i]);
            Check.due("short with set off, one more or less", x.shorted(0, 0, 19, true, n + 1 + i), then[i]);
        }
        x.paid(0, 5, 24);
        Check.due("short with set off of 0", x.shorted(0, 0, 19, true, n + 5), 0);
        x.paid(0, 5, 1);
        Check.due("short with set off of -1", x.shorted(0, 0, 19, true, n + 6), 0);
        x.paid(0, 5, -2);
        Check.due("short with set off of 1", x.shorted(0, 0, 19, true, n + 7), 1);
    }

    private static void shortOfNoSuchOnes() {
        Check.holds("Promise 39", "SHORT of a PERSON for WEEKS a .. b, with SET OFF or not, as KNOWN by n; NONE: no such ones, b"
                + " below a.");
        WageCourt x = withWeeks();
        int n = x.count(3);
        int[][] wrong = {{-1, 0, 1, n}, {3, 0, 1, n}, {LEAST, 0, 1, n}, {MOST, 0, 1, n}, {0, -1, 1, n}, {0, 20, 20, n},
            {0, 0, 20, n}, {0, 0, MOST, n}, {0, LEAST, 1, n}, {0, MOST, MOST, n}, {0, 1, 0, n}, {0, 19, 18, n}, {0, 0, -1, n},
            {0, 19, 0, n}, {0, 0, LEAST, n}, {0, 0, 1, -1}, {0, 0, 1, n + 1}, {0, 0, 1, LEAST}, {0, 0, 1, MOST}};
        for (int[] w : wrong) {
            Check.due("shorted" + Arrays.toString(w), x.shorted(w[0], w[1], w[2], false, w[3]), -1);
            Check.due("shorted with set off" + Arrays.toString(w), x.shorted(w[0], w[1], w[2], true, w[3]), -1);
        }
        Check.due("shorted of the last ones", x.shorted(2, 19, 19, false, n), 0);
    }

    /** Person 0 has two HALVES of c in WEEK 0 and one in WEEK 1, person 1 one in WEEK 0, person 2 one in WEEK 19. */
    private static WageCourt withTasks(String... texts) {
        WageCourt x = court(texts);
        Check.row(x, 0, 6, 0, 1, 1);
        Check.row(x, 0, 7, 0, 1);
        Check.row(x, 1, 0, 0, 1);
        Check.row(x, 2, 139, 47, 1);
        return x;
    }

    private static void tryAtFirms() {
        Check.holds("Terms", "TRY: PAY of all PEOPLE of a FIRM (or of all)");
        Check.holds("Promise 40", "TRY at a FIRM (NONE: all)");
        WageCourt x = withTasks("award a" + ALWAYS + "class c tasks 1 margin 10;");
        Check.due("tried at firm 0", x.tried(0, 0, 1, 20, 0, 19, 5), 40);
        Check.due("tried at firm 1", x.tried(1, 0, 1, 20, 0, 19, 5), 10);
        Check.due("tried at all", x.tried(-1, 0, 1, 20, 0, 19, 5), 50);
        Check.due("tried at firm 2", x.tried(2, 0, 1, 20, 0, 19, 5), -1);
        x.firm(0, 0);
        Check.due("tried at a firm without people", x.tried(2, 0, 1, 20, 0, 19, 5), 0);
        WageCourt empty = new WageCourt();
        Check.tell(empty, "award a from 0; class c tasks 1 margin 1;");
        Check.due("tried at all without people", empty.tried(-1, 0, 1, 5, 0, 19, 1), 0);
        Check.due("tried at firm 0 that is not there", empty.tried(0, 0, 1, 5, 0, 19, 1), -1);
    }

    private static void tryOfTenPeople() {
        WageCourt x = new WageCourt();
        x.town();
        for (int i = 0; i < 8; i++) {
            x.firm(0, 0);
        }
        for (int i = 0; i < 10; i++) {
            x.person(i % 8, 0, 0);
        }
        Check.tell(x, "award a" + ALWAYS + "class c tasks 1 margin 10;");
        for (int i = 0; i < 10; i++) {
            Check.row(x, i, 0, 0, 1);
        }
        for (int firm = 0; firm < 8; firm++) {
            Check.due("tried at firm " + firm, x.tried(firm, 0, 1, 20, 0, 0, 11), firm < 2 ? 20 : 10);
        }
        Check.due("tried at all", x.tried(-1, 0, 1, 20, 0, 0, 11), 100);
    }

    private static void tryInWeeks() {
        Check.holds("Terms", "in WEEKS a .. b, together,");
        Check.holds("Promise 40", "in WEEKS a .. b, as KNOWN by n,");
        WageCourt x = withTasks("award a" + ALWAYS + "class c tasks 1 margin 10; round 3;");
        int[][] due = {{0, 0, 21 + 9}, {1, 1, 9}, {0, 1, 39}, {2, 18, 0}, {19, 19, 9}, {0, 19, 48}, {1, 19, 18}, {18, 18, 0}};
        for (int[] d : due) {
            Check.due("tried in " + d[0] + " .. " + d[1], x.tried(-1, 0, 1, 20, d[0], d[1], 5), d[2]);
        }
        int[] known = {0, 21, 30, 39, 48};
        for (int n = 1; n <= 5; n++) {
            Check.due("tried by " + n, x.tried(-1, 0, 1, 20, 0, 19, n), known[n - 1]);
        }
    }

    private static void tryOfNames() {
        Check.holds("Promise 40", "with a margin v (-9999 .. 9999) of a NAME in an award (among the first n);");
        WageCourt x = court();
        x.wet(0, 0, 0);
        Check.tell(x, "award a from 0; binds if half == 0; class c tasks 1 margin 10; class d tasks 2 margin 10; load e 10;");
        Check.tell(x, "award b from 0; binds if half == 1; class c tasks 1 margin 10;");
        Check.row(x, 0, 0, 0, 1, 1);
        Check.row(x, 0, 7, 0, 2);
        int n = 5;
        Check.due("tried of nothing that pays", x.tried(-1, 1, 0, 100, 0, 1, n), x.pay(0, 0, n) + x.pay(0, 1, n));
        Check.due("tried of a's c", x.tried(-1, 1, 1, 100, 0, 1, n), 55 + 5 + 6);
        Check.due("tried of a's d", x.tried(-1, 1, 2, 100, 0, 1, n), 6 + 5 + 55);
        Check.due("tried of b's c", x.tried(-1, 2, 1, 100, 0, 1, n), 6 + 50 + 6);
        Check.due("tried of b's d, which is not there", x.tried(-1, 2, 2, 100, 0, 1, n), 6 + 5 + 6);
        Check.due("tried of a load", x.tried(-1, 1, 3, 100, 0, 1, n), 6 + 5 + 6);
        Check.due("tried of the last name", x.tried(-1, 1, 4, 100, 0, 1, n), 6 + 5 + 6);
        Check.due("tried of an award among the first 2", x.tried(-1, 1, 1, 100, 0, 1, 2), 0);
        Check.due("tried of an award that is not", x.tried(-1, 1, 1, 100, 0, 1, 1), -1);
        Check.due("tried of the other among the first 3", x.tried(-1, 2, 1, 100, 0, 1, 3), 0);
        Check.due("tried of the other that is not", x.tried(-1, 2, 1, 100, 0, 1, 2), -1);
    }

    private static void tryWhereItIs() {
        Check.holds("Terms", "if in one award the class of a NAME had the margin v (where it is there),");
        WageCourt x = withTasks("award a" + ALWAYS + "class b tasks 1 margin 8;", "vary a from 7; strike b; class c tasks 1"
                + " margin 10;", "order a firm 1 from 0; load b 50;");
        Check.due("tried of what is there in week 0 at firm 0", x.tried(-1, 0, 1, 20, 0, 19, 7), 20 + 5 + 10 + 5);
        Check.due("tried of what is there from week 1 on", x.tried(-1, 0, 2, 20, 0, 19, 7), 8 + 10 + 4 + 10);
        x.stay(1, 7, 14);
        Check.due("tried of what is there while the vary is stayed", x.tried(-1, 0, 1, 20, 0, 1, 8), 20 + 10 + 10);
        x.stay(0, 0, 7);
        Check.due("tried where the award is not in force", x.tried(-1, 0, 1, 20, 0, 0, 9), 0);
    }

    private static void tryWhateverIsTold() {
        Check.holds("Terms", "whatever else is told of its margin;");
        WageCourt x = court("award a" + ALWAYS + "class c tasks 1 margin 10 + 5 * years; class d tasks 2 follows a c plus 6;");
        x.log(0, 1, 0);
        x.answer(0, 1, 99);
        Check.tell(x, "vary a from 7; margin c is 50;");
        Check.tell(x, "vary a from 14; class c tasks 1 follows a d plus 100;");
        for (int day = 0; day < 21; day += 7) {
            Check.row(x, 0, day, 0, 1);
        }
        int n = x.count(3);
        int[] before = {5, 25, 53};
        for (int week = 0; week < 3; week++) {
            Check.due("pay of week " + week, x.pay(0, week, n), before[week]);
            Check.due("tried in week " + week, x.tried(0, 0, 1, 30, week, week, n), 15);
            Check.due("tried with 0 in week " + week, x.tried(0, 0, 1, 0, week, week, n), 0);
        }
    }

    private static void tryTies() {
        Check.holds("Terms", "ties follow.");
        WageCourt x = court("award a from 0; binds if half == 0; class c tasks 1 margin 10; class d tasks 2 follows a c plus 6;"
                + " class e tasks 3 follows b c plus 2;", "award b from 0; binds if half == 1; class c tasks 1 follows a d plus 4;",
                "agree b firm 0 from 0; binds if half == 1; class f tasks 2 follows b c plus 10;");
        Check.row(x, 0, 0, 0, 2, 1);
        Check.row(x, 0, 7, 0, 3, 2);
        Check.due("pay", x.pay(0, 0, 5), (16 + 20) / 2);
        Check.due("pay", x.pay(0, 1, 5), (22 + 30) / 2);
        Check.due("tried of the first in the chain", x.tried(0, 0, 1, 110, 0, 1, 5), (116 + 120 + 122 + 130) / 2);
        Check.due("tried of one within", x.tried(0, 0, 2, 110, 0, 1, 5), (110 + 114 + 116 + 124) / 2);
        Check.due("tried of one in the other award", x.tried(0, 1, 1, 110, 0, 1, 5), (16 + 110 + 112 + 120) / 2);
        Check.due("tried of the last in the chain", x.tried(0, 0, 3, 110, 0, 1, 5), (16 + 20 + 110 + 30) / 2);
        WageCourt y = court("award a" + ALWAYS + "class c tasks 1 follows a d plus 1; class d tasks 2 follows a c plus 2; class e"
                + " tasks 3 follows a c plus 4;");
        for (int task = 1; task < 4; task++) {
            Check.row(y, 0, 7 * task, 0, task);
        }
        Check.due("pay of a ring", y.pay(0, 1, 4) + y.pay(0, 2, 4) + y.pay(0, 3, 4), 2 + 2 + 4);
        Check.due("tried of one in a ring", y.tried(0, 0, 1, 100, 1, 3, 4), 50 + 51 + 52);
        Check.due("tried of the other in a ring", y.tried(0, 0, 2, 100, 1, 3, 4), 51 + 50 + 53);
        WageCourt z = court("award a" + ALWAYS + "choose highest; class c tasks 1 margin 10; class d tasks 2 follows a c plus 0 -"
                + " 9999 - 9999;");
        Check.row(z, 0, 0, 0, 1, 2);
        Check.due("tried where another one is the highest", z.tried(0, 0, 2, 50, 0, 0, 2), 50);
        Check.due("tried with ties that are held in the end", z.tried(0, 0, 1, 9999, 0, 0, 2), 9999);
    }

    private static void tryEdges() {
        WageCourt x = withTasks("award a" + ALWAYS + "class c tasks 1 margin 10;");
        x.price(0, 0, 0, 99);
        int[] margins = {-9999, -100, -99, -98, -97, 0, 9998, 9999};
        int[] due = {0, 0, 0, 1, 1, 50, 5049, 5049};
        for (int i = 0; i < margins.length; i++) {
            Check.due("tried with " + margins[i], x.tried(0, 0, 1, margins[i], 1, 1, 6), due[i]);
        }
        Check.due("tried with -10000", x.tried(0, 0, 1, -10000, 1, 1, 6), -1);
        Check.due("tried with 10000", x.tried(0, 0, 1, 10000, 1, 1, 6), -1);
        Check.due("tried with the least int", x.tried(0, 0, 1, LEAST, 1, 1, 6), -1);
        Check.due("tried with the greatest int", x.tried(0, 0, 1, MOST, 1, 1, 6), -1);
    }

    private static void tryOfNoSuchOnes() {
        Check.holds("Promise 40", "NONE: no such ones, b below a.");
        WageCourt x = withTasks("award a" + ALWAYS + "class c tasks 1 margin 10;", "vary a from 0;", "agree a firm 0 from 0;");
        int n = 7;
        int[][] wrong = {{-2, 0, 1, 0, 0, 0, n}, {2, 0, 1, 0, 0, 0, n}, {LEAST, 0, 1, 0, 0, 0, n}, {MOST, 0, 1, 0, 0, 0, n},
            {0, -1, 1, 0, 0, 0, n}, {0, 1, 1, 0, 0, 0, n}, {0, 2, 1, 0, 0, 0, n}, {0, 3, 1, 0, 0, 0, n}, {0, 7, 1, 0, 0, 0, n},
            {0, LEAST, 1, 0, 0, 0, n}, {0, MOST, 1, 0, 0, 0, n}, {0, 0, -1, 0, 0, 0, n}, {0, 0, 2, 0, 0, 0, n},
            {0, 0, LEAST, 0, 0, 0, n}, {0, 0, MOST, 0, 0, 0, n}, {0, 0, 1, 0, -1, 0, n}, {0, 0, 1, 0, 20, 20, n},
            {0, 0, 1, 0, 0, 20, n}, {0, 0, 1, 0, 0, -1, n}, {0, 0, 1, 0, 1, 0, n}, {0, 0, 1, 0, 19, 18, n},
            {0, 0, 1, 0, LEAST, 0, n}, {0, 0, 1, 0, 0, MOST, n}, {0, 0, 1, 0, MOST, MOST, n}, {0, 0, 1, 0, 0, 0, -1},
            {0, 0, 1, 0, 0, 0, n + 1}, {0, 0, 1, 0, 0, 0, 0}, {0, 0, 1, 0, 0, 0, LEAST}, {0, 0, 1, 0, 0, 0, MOST}};
        for (int[] w : wrong) {
            for (int firm = -1; firm < 1; firm++) {
                int at = w[0] == 0 ? firm : w[0];
                Check.due("tried" + Arrays.toString(w), x.tried(at, w[1], w[2], w[3], w[4], w[5], w[6]), -1);
            }
        }
        Check.due("tried", x.tried(0, 0, 1, 0, 0, 0, n), 0);
        Check.due("tried of an award and a name", x.tried(0, 0, 0, 0, 19, 19, n), 0);
    }

    private static void tryChangesNothing() {
        Check.holds("Promise 40", "(Nothing changes.)");
        Twins.Told told = c -> {
            c.town();
            c.firm(0, 0);
            c.person(0, 0, 0);
            c.person(0, 0, 0);
            Check.tell(c, "award a" + ALWAYS + "class c tasks 1 margin 10; class d tasks 2 follows a c plus 1;");
            Check.row(c, 0, 0, 0, 1, 2, 3);
        };
        Twins.refused("tried", told, 100, c -> c.tried(-1, 0, 1, 99, 0, 0, 2));
        Twins.refused("tried of nobody", told, -1, c -> c.tried(1, 0, 1, 99, 0, 0, 2));
        WageCourt x = new WageCourt();
        told.to(x);
        Check.due("pay ahead of it", x.pay(0, 0, 2), 11);
        Check.due("tried", x.tried(0, 0, 1, 99, 0, 19, 2), 100);
        Check.due("margin behind it", x.margin(0, 1, 0, 0, 2), 10);
        Check.due("rate behind it", x.rate(0, 0, 1, 2), 11);
        Check.due("pay behind it", x.pay(0, 0, 2), 11);
    }

    private static void turned() {
        Check.holds("Promise 45", "The first PERSON and WEEK (20 times the PERSON, and the WEEK) whose PAY is not the same as"
                + " KNOWN by n and m;");
        WageCourt x = new WageCourt();
        x.town();
        x.firm(0, 0);
        for (int i = 0; i < 10; i++) {
            x.person(0, 0, 0);
        }
        Check.tell(x, "award a" + ALWAYS + "class c tasks 1 margin 10;");
        Check.row(x, 9, 139, 47, 1);
        Check.row(x, 9, 0, 0, 1);
        Check.row(x, 8, 139, 0, 1);
        Check.row(x, 1, 7, 0, 1);
        Check.row(x, 0, 139, 0, 1);
        Check.row(x, 0, 6, 0, 1);
        int[] due = {199, 180, 179, 21, 19, 0};
        for (int n = 1; n <= 6; n++) {
            Check.due("turned from " + n + " to the next", x.turned(n, n + 1), due[n - 1]);
            Check.due("turned from the next to " + n, x.turned(n + 1, n), due[n - 1]);
            Check.due("turned from 0", x.turned(0, n + 1), due[n - 1]);
            Check.due("turned from 1", x.turned(1, n + 1), due[n - 1]);
        }
        Check.tell(x, "vary a from 130; class c tasks 1 margin 11;");
        Check.due("turned by a vary late on", x.turned(7, 8), 19);
        Check.tell(x, "vary a from 130; class c tasks 1 margin 10;");
        Check.due("turned there and back", x.turned(7, 9), -1);
    }

    private static void turnedOfNoSuchOnes() {
        Check.holds("Promise 45", "NONE: none, no such ones.");
        WageCourt x = withTasks("award a" + ALWAYS + "class c tasks 1 margin 10;");
        x.paid(0, 0, 3);
        for (int n = 0; n <= 6; n++) {
            Check.due("turned of one and the same", x.turned(n, n), -1);
        }
        Check.due("turned by a payment", x.turned(5, 6), -1);
        Check.due("turned by an award alone", x.turned(0, 1), -1);
        int[][] wrong = {{-1, 5}, {5, -1}, {0, 7}, {7, 0}, {-1, -1}, {7, 7}, {0, LEAST}, {MOST, 5}, {LEAST, MOST}, {0, 161}};
        for (int[] w : wrong) {
            Check.due("turned" + Arrays.toString(w), x.turned(w[0], w[1]), -1);
        }
        Check.due("turned", x.turned(0, 6), 0);
        WageCourt y = new WageCourt();
        Check.tell(y, "award a" + ALWAYS + "class c tasks 1 margin 10;");
        Check.due("turned without people", y.turned(0, 1), -1);
    }
}
