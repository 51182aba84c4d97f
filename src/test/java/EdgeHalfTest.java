import java.util.Arrays;

/** Boundary cases of a HALF: its VARS, what binds it, its CLASS (Terms, IV), and of promises 28 to 31. */
final class EdgeHalfTest {
    private static final int LEAST = Integer.MIN_VALUE;
    private static final int MOST = Integer.MAX_VALUE;
    private static final String ALWAYS = " from 0; binds if 0 == 0; ";

    public static void main(String[] args) {
        varsOfThePerson();
        varsOfTheHalf();
        worked();
        week();
        weekAsKnown();
        wetAndLeast();
        rateElsewhere();
        did();
        didOfNoSuchOnes();
        boundBySome();
        boundByConds();
        boundByJoinedConds();
        overs();
        quarrels();
        boundOfNoSuchOnes();
        byEach();
        byMost();
        byMostAlike();
        byMostBound();
        byMostOfSixty();
        byHighest();
        chosenForEachThatHasOne();
        classed();
        unnamed();
        nearest();
        nearestOfOthers();
        Check.end();
    }

    /** Two towns, two firms of trades 0 and 7 in them, a person with TICKETS 0 and YEARS 0 and another at the last. */
    private static WageCourt court() {
        WageCourt x = new WageCourt();
        x.town();
        x.town();
        x.firm(0, 0);
        x.firm(1, 7);
        x.person(0, 0, 0);
        x.person(1, 255, 40);
        return x;
    }

    private static WageCourt court(String... texts) {
        WageCourt x = court();
        for (String text : texts) {
            Check.tell(x, text);
        }
        return x;
    }

    /** An extra, told as FACT 0, shows the VAR, as far as it is -100 .. 899. */
    private static WageCourt withVar(String name) {
        return court("award a" + ALWAYS + "class c tasks 0,1,2,3,4,5,15 margin 1; extra e 100 + " + name + ";");
    }

    private static int var(WageCourt x, int person, int day, int half, int n) {
        return (x.worth(person, day, half, n) - 100 * x.rate(person, day, half, n)) / 200 - 100;
    }

    private static void varsOfThePerson() {
        Check.holds("Terms", "A HALF of a PERSON in which a TASK was done. VARS: years; trade, town, who of the FIRM;");
        String[] vars = {"years", "trade", "town", "who"};
        int[][] due = {{0, 40}, {0, 7}, {0, 1}, {0, 1}};
        for (int i = 0; i < vars.length; i++) {
            WageCourt x = withVar(vars[i]);
            for (int person = 0; person < 2; person++) {
                Check.row(x, person, 0, 0, 1);
                Check.due(vars[i] + " of person " + person, var(x, person, 0, 0, x.count(3)), due[i][person]);
            }
        }
    }

    private static void varsOfTheHalf() {
        Check.holds("Terms", "task; weekday; half;");
        WageCourt task = withVar("task");
        Check.row(task, 0, 0, 0, 0, 1, 15);
        Check.due("task 0", var(task, 0, 0, 0, 2), 0);
        Check.due("task 1", var(task, 0, 0, 1, 2), 1);
        Check.due("task 15", var(task, 0, 0, 2, 2), 15);
        WageCourt weekday = withVar("weekday");
        int[] days = {0, 6, 7, 132, 133, 139};
        int[] weekdays = {0, 6, 0, 6, 0, 6};
        for (int i = 0; i < days.length; i++) {
            Check.row(weekday, 0, days[i], 0, 1);
            Check.due("weekday of day " + days[i], var(weekday, 0, days[i], 0, i + 2), weekdays[i]);
        }
        WageCourt half = withVar("half");
        Check.row(half, 0, 0, 0, 1, 1);
        half.cell(46, 1);
        half.cell(47, 1);
        int[] halves = {0, 1, 46, 47};
        for (int h : halves) {
            Check.due("half " + h, var(half, 0, 0, h, 2), h);
        }
    }

    private static void worked() {
        Check.holds("Terms", "worked: HALVES with TASKS ahead on this DAY;");
        WageCourt x = withVar("worked");
        Check.row(x, 0, 8, 0, 1, 1, 1, 1);
        int[] full = new int[48];
        Arrays.fill(full, 1);
        Check.row(x, 0, 9, 0, full);
        Check.row(x, 0, 10, 3, 9, 16, -1, 0, 1, 16, 16, 2);
        x.row(0, 11, 2);
        x.cell(1, 1);
        x.row(0, 12, -1);
        Check.row(x, 0, 13, 0, -1, 1);
        int n = x.count(3);
        int[] halves = {0, 1, 2, 46, 47};
        for (int half : halves) {
            Check.due("worked ahead of half " + half + " of a full day", var(x, 0, 9, half, n), half);
        }
        int[][] due = {{6, 1}, {7, 2}, {10, 3}};
        for (int[] d : due) {
            Check.due("worked ahead of half " + d[0], var(x, 0, 10, d[0], n), d[1]);
        }
        Check.due("worked of a short row", var(x, 0, 11, 1, n), 0);
        Check.due("worked on the last day", var(x, 0, 13, 1, n), 0);
    }

    private static void week() {
        Check.holds("Terms", "week: in this WEEK ahead (this DAY's too);");
        WageCourt x = withVar("week");
        int[] full = new int[48];
        Arrays.fill(full, 2);
        for (int day = 7; day < 14; day++) {
            Check.row(x, 0, day, 0, full);
        }
        Check.row(x, 0, 14, 0, 2, 2);
        Check.row(x, 1, 7, 0, 2, 2);
        int n = x.count(3);
        Check.due("week on its first day", var(x, 0, 7, 0, n), 0);
        Check.due("week on its first day, behind one", var(x, 0, 7, 1, n), 1);
        Check.due("week at the end of its first day", var(x, 0, 7, 47, n), 47);
        Check.due("week on its second day", var(x, 0, 8, 0, n), 48);
        Check.due("week at its very end", var(x, 0, 13, 47, n), 7 * 48 - 1);
        Check.due("week on the first day of the next", var(x, 0, 14, 0, n), 0);
        Check.due("week on the first day of the next, behind one", var(x, 0, 14, 1, n), 1);
        Check.due("week of another person", var(x, 1, 7, 1, n), 1);
        WageCourt ahead = withVar("week");
        Check.row(ahead, 0, 6, 0, full);
        Check.row(ahead, 0, 7, 0, full);
        Check.due("week at the end of its last day", var(ahead, 0, 6, 47, 3), 47);
        Check.due("week behind the end of the one ahead", var(ahead, 0, 7, 0, 3), 0);
    }

    private static void weekAsKnown() {
        WageCourt x = withVar("week");
        Check.row(x, 0, 1, 0, 1, 1, 16, -1, 9);
        x.row(0, 2, 3);
        x.cell(2, 1);
        x.row(0, 3, -1);
        Check.row(x, 0, 4, 5, 1, 2);
        Check.row(x, 0, 1, 0, 1);
        x.row(0, 3, 1);
        x.cell(0, 3);
        Check.row(x, 0, 5, 0, 1, 1, 1);
        int[] due = {4, 2, 3, 3};
        for (int n = 5; n <= 8; n++) {
            Check.due("week as known by " + n, var(x, 0, 4, 5, n), due[n - 5]);
            Check.due("week as known by " + n + ", one further", var(x, 0, 4, 6, n), due[n - 5] + 1);
        }
    }

    private static void wetAndLeast() {
        Check.holds("Terms", "wet; least of the TOWN in the QUARTER;");
        WageCourt wet = withVar("wet");
        for (int day = 33; day < 37; day++) {
            Check.row(wet, 0, day, 0, 1);
        }
        Check.row(wet, 1, 34, 0, 1);
        wet.wet(0, 34, 9);
        wet.wet(1, 34, 1);
        wet.wet(0, 35, 0);
        int n = wet.count(3);
        int[] due = {0, 9, 0, 0};
        for (int day = 33; day < 37; day++) {
            Check.due("wet on day " + day, var(wet, 0, day, 0, n), due[day - 33]);
            Check.due("wet on day " + day + " as known", var(wet, 0, day, 0, n - 3), 0);
        }
        Check.due("wet of the other firm", var(wet, 1, 34, 0, n), 1);
        WageCourt first = court();
        first.wet(0, 0, 7);
        Check.tell(first, "award a" + ALWAYS + "class c tasks 1 margin 1; extra e 100 + wet;");
        Check.row(first, 0, 0, 0, 1);
        Check.due("wet that is the first fact", var(first, 0, 0, 0, 3), 7);
        WageCourt least = withVar("least");
        for (int day = 33; day < 37; day++) {
            Check.row(least, 0, day, 0, 1);
            Check.row(least, 1, day, 0, 1);
        }
        least.price(0, 0, 0, 7);
        least.price(0, 1, 0, 99);
        least.price(1, 1, 0, 8);
        n = least.count(3);
        int[] ofFirst = {7, 7, 99, 99};
        int[] ofOther = {0, 0, 8, 8};
        for (int day = 33; day < 37; day++) {
            Check.due("least on day " + day, var(least, 0, day, 0, n), ofFirst[day - 33]);
            Check.due("least in the other town on day " + day, var(least, 1, day, 0, n), ofOther[day - 33]);
            Check.due("least as known on day " + day, var(least, 0, day, 0, n - 3), 0);
        }
    }

    private static void rateElsewhere() {
        Check.holds("Terms", "rate (in load, extra alone; else 0).");
        WageCourt x = court("award a from 0; binds if rate == 0; class c tasks 1 margin 30 + rate + task + half;"
                + " extra e rate; extra f 1 if rate == 30; load l rate + 1 if 30 <= rate;",
                "award b from 0; binds if 0 < rate or rate < 0;", "agree a firm 0 from 0; binds if rate == 0; class c tasks 1"
                + " margin 31 + rate; extra g rate + 3; extra h 2 if rate == 31;");
        Check.row(x, 1, 0, 9, 1);
        Check.row(x, 0, 0, 9, 1);
        Check.due("bound with rate 0", x.bound(1, 0, 9, 5), 0);
        Check.due("rate", x.rate(1, 0, 9, 5), 30);
        Check.due("worth with the rate in a load, an extra", x.worth(1, 0, 9, 5), 30 * 131 + 200 * 31);
        Check.due("rate by the agree", x.rate(0, 0, 9, 5), 31);
        Check.due("worth with the agree's rate", x.worth(0, 0, 9, 5), 3100 + 200 * 36);
    }

    private static void did() {
        Check.holds("Promise 28", "What a PERSON did in a HALF, as KNOWN by n: a TASK, 16, NONE; -2 UNKNOWN;");
        WageCourt x = court();
        x.row(1, 139, 6);
        int[] cells = {0, 15, 16, -1, 1};
        for (int i = 0; i < cells.length; i++) {
            x.cell(i, cells[i]);
        }
        x.row(1, 139, -1);
        int[] due = {0, 15, 16, -1, 1, -1, -2, -2};
        for (int half = 0; half < due.length; half++) {
            Check.due("did by 0", x.did(1, 139, half, 0), -1);
            Check.due("did by 1", x.did(1, 139, half, 1), due[half]);
            Check.due("did by 2", x.did(1, 139, half, 2), -2);
            Check.due("did of another person", x.did(0, 139, half, 2), -1);
            Check.due("did on another day", x.did(1, 138, half, 2), -1);
        }
    }

    /** Wrong ones of PERSON, DAY, HALF, n, with two FACTS. */
    private static int[][] wrongOnes() {
        return new int[][] {{-1, 0, 0, 2}, {2, 0, 0, 2}, {10, 0, 0, 2}, {LEAST, 0, 0, 2}, {MOST, 0, 0, 2}, {0, -1, 0, 2},
            {0, 140, 0, 2}, {0, LEAST, 0, 2}, {0, MOST, 0, 2}, {0, 0, -1, 2}, {0, 0, 48, 2}, {0, 0, LEAST, 2},
            {0, 0, MOST, 2}, {0, 0, 0, -1}, {0, 0, 0, 3}, {0, 0, 0, LEAST}, {0, 0, 0, MOST}, {0, 0, 0, 161}};
    }

    private static WageCourt withOneHalf() {
        WageCourt x = court("award a" + ALWAYS + "class c tasks 1 margin 30; load l 10;");
        Check.row(x, 0, 0, 0, 1, 2, 16, -1);
        return x;
    }

    private static void didOfNoSuchOnes() {
        Check.holds("Promise 28", "-3: no such ones.");
        WageCourt x = withOneHalf();
        for (int[] w : wrongOnes()) {
            Check.due("did" + Arrays.toString(w), x.did(w[0], w[1], w[2], w[3]), -3);
        }
        Check.due("did", x.did(0, 0, 0, 2), 1);
        Check.due("did of the last ones", x.did(1, 139, 47, 2), -1);
    }

    private static void boundBySome() {
        Check.holds("Terms", "It is BOUND by the award that is in force and of which some binds COND holds.");
        WageCourt x = court("award a from 3; binds if 0 == 1; binds if half == 5; binds if 1 == 0;", "award b from 0;",
                "award c from 0; binds if 0 == 1;", "award d from 4; binds if half == 6; binds if half == 6;");
        for (int day = 2; day < 6; day++) {
            Check.row(x, 0, day, 4, 1, 1, 1);
        }
        x.stay(0, 4, 5);
        int n = x.count(3);
        int[][] due = {{-1, -1, -1}, {-1, 0, -1}, {-1, -1, 3}, {-1, 0, 3}};
        for (int day = 2; day < 6; day++) {
            for (int half = 4; half < 7; half++) {
                Check.due("bound in half " + half + " on day " + day, x.bound(0, day, half, n), due[day - 2][half - 4]);
            }
        }
        Check.due("bound while the stay is not known", x.bound(0, 4, 5, n - 1), 0);
        WageCourt y = court("award a from 0;", "vary a from 0;", "agree a firm 0" + ALWAYS);
        Check.row(y, 0, 0, 0, 1);
        Check.due("bound by an agree alone", y.bound(0, 0, 0, 4), -1);
    }

    private static int boundOf(int person, String... texts) {
        WageCourt x = court(texts);
        Check.row(x, person, 0, 0, 1);
        return x.bound(person, 0, 0, x.count(3));
    }

    private static void boundByConds() {
        for (int ticket = 0; ticket < 8; ticket++) {
            Check.due("bound by ticket " + ticket, boundOf(1, "award a from 0; binds if ticket " + ticket + ";"), 0);
            Check.due("bound without it", boundOf(0, "award a from 0; binds if ticket " + ticket + ";"), -1);
            Check.due("bound by not", boundOf(0, "award a from 0; binds if not ticket " + ticket + ";"), 0);
        }
        String[] so = {"years < 41", "40 <= years", "not years < 40", "years == 40", "trade == 7", "town != 0",
            "task < 2", "1 <= task", "0 <= half", "worked < 1", "week <= 0", "0 - 1 < 0"};
        String[] not = {"years < 40", "41 <= years", "years != 40", "8 <= trade", "town < 1", "task < 1", "half < 0",
            "0 < worked", "week != 0", "0 < 0", "0 < 0 - 1"};
        for (String cond : so) {
            Check.due("bound if " + cond, boundOf(1, "award a from 0; binds if " + cond + ";"), 0);
        }
        for (String cond : not) {
            Check.due("bound if " + cond, boundOf(1, "award a from 0; binds if " + cond + ";"), -1);
        }
    }

    /** or binds less than and, and less than not; none of them sees what another one's E did. */
    private static void boundByJoinedConds() {
        String yes = "0 == 0";
        String no = "0 == 1";
        String[] so = {"not not " + yes, "not not not " + no, yes + " or " + yes + " and " + no, no + " and " + no + " or " + yes,
            yes + " or " + no + " and " + no, no + " or " + yes + " and " + yes, "not " + no + " and " + yes,
            "not " + no + " or " + no, "not " + yes + " or " + yes, "not not ticket 7", "ticket 0 and not " + no,
            no + " or " + no + " or " + yes, yes + " and " + yes + " and " + yes, "not " + no + " and not " + no,
            "not not " + yes + " and not not " + yes, "not " + yes + " and " + no + " or not " + no};
        String[] not = {"not not " + no, "not not not " + yes, yes + " and " + no + " or " + no, no + " or " + yes + " and " + no,
            no + " or " + no + " or " + no, yes + " and " + yes + " and " + no, "not " + yes + " and " + yes,
            "not " + no + " and " + no, "not not " + no + " or " + no, "not ticket 7", yes + " and not " + yes,
            no + " and " + yes + " or " + yes + " and " + no, "not " + yes + " or not " + yes};
        for (String cond : so) {
            Check.due("bound if " + cond, boundOf(1, "award a from 0; binds if " + cond + ";"), 0);
        }
        for (String cond : not) {
            Check.due("bound if " + cond, boundOf(1, "award a from 0; binds if " + cond + ";"), -1);
        }
    }

    private static void overs() {
        Check.holds("Terms", "Of several those are left out of which another one of these has an over;");
        String a = "award a" + ALWAYS;
        String b = "award b" + ALWAYS;
        String c = "award c" + ALWAYS;
        Check.due("one over the other", boundOf(0, a + "over b;", b), 0);
        Check.due("the other over the one", boundOf(0, a, b + "over a;"), 1);
        Check.due("over what does not bind", boundOf(0, a + "over b;", "award b from 0;"), 0);
        Check.due("over, of one that does not bind", boundOf(0, "award a from 0; over b;", b), 1);
        Check.due("over, of one that is not in force", boundOf(0, "award a from 1; binds if 0 == 0; over b;", b), 1);
        Check.due("over itself", boundOf(0, a + "over a;"), 0);
        Check.due("over itself, another over it", boundOf(0, a + "over a;", b + "over a;"), 1);
        Check.due("over what no award is", boundOf(0, a + "over z;"), 0);
        Check.due("over two", boundOf(0, a + "over b; over c;", b, c), 0);
        Check.due("over in a row", boundOf(0, a + "over b;", b + "over c;", c), 0);
        Check.due("over by one that is left out", boundOf(0, a, b + "over a;", c + "over b;"), 2);
        Check.due("over ahead of the binds", boundOf(0, "award a from 0; over b; binds if 0 == 0;", b), 0);
        Check.due("one of three without an over of it", boundOf(0, a + "over b;", b + "over a;", c), 2);
    }

    private static void quarrels() {
        Check.holds("Terms", "if then not just one is left, there is a QUARREL: nothing is paid.");
        String a = "award a" + ALWAYS;
        String b = "award b" + ALWAYS;
        String c = "award c" + ALWAYS;
        Check.due("two", boundOf(0, a, b), -2);
        Check.due("two over one another", boundOf(0, a + "over b;", b + "over a;"), -2);
        Check.due("three, one left out", boundOf(0, a + "over b;", b, c), -2);
        Check.due("three in a ring", boundOf(0, a + "over b;", b + "over c;", c + "over a;"), -2);
        Check.due("an agree's over", boundOf(0, a, b, "agree a firm 0" + ALWAYS + "over b;"), -2);
        WageCourt x = court(a + "class d tasks 1 margin 100; extra e 5;", b + "class d tasks 1 margin 100;",
                "agree a firm 0" + ALWAYS + "class d tasks 1 margin 500;");
        x.marks(1, 1);
        Check.row(x, 0, 0, 0, 1);
        Check.due("bound", x.bound(0, 0, 0, 4), -2);
        Check.due("bound by 1 and the row", x.bound(0, 0, 0, 3), -1);
        Check.due("classed", x.classed(0, 0, 0, 4), -1);
        Check.due("nearest", x.nearest(0, 0, 0, 4), -1);
        Check.due("payer", x.payer(0, 0, 0, 4), -1);
        Check.due("rate", x.rate(0, 0, 0, 4), -1);
        Check.due("counted", x.counted(0, 0, 0, 0, 4), -1);
        Check.due("worth", x.worth(0, 0, 0, 4), 0);
        Check.due("pay", x.pay(0, 0, 4), 0);
        x.stay(1, 0, 1);
        Check.due("bound when one is stayed", x.bound(0, 0, 0, 5), 0);
        Check.due("pay then", x.pay(0, 0, 5), 250);
    }

    private static void boundOfNoSuchOnes() {
        Check.holds("Promise 29", "By which award (its FACT) a HALF is BOUND, as KNOWN by n; NONE: none, no TASK, no such"
                + " ones; -2: a QUARREL.");
        WageCourt x = withOneHalf();
        for (int[] w : wrongOnes()) {
            Check.due("bound" + Arrays.toString(w), x.bound(w[0], w[1], w[2], w[3]), -1);
        }
        Check.due("bound", x.bound(0, 0, 0, 2), 0);
        Check.due("bound of what is unnamed", x.bound(0, 0, 1, 2), 0);
        Check.due("bound of a break", x.bound(0, 0, 2, 2), -1);
        Check.due("bound of nothing", x.bound(0, 0, 3, 2), -1);
        Check.due("bound by 1", x.bound(0, 0, 0, 1), -1);
        x.row(0, 0, 1);
        Check.due("bound of what is unknown", x.bound(0, 0, 1, 3), -1);
        WageCourt y = court();
        Check.row(y, 0, 0, 0, 1);
        y.wet(0, 0, 0);
        Check.tell(y, "award a" + ALWAYS);
        Check.due("bound by an award of fact 2", y.bound(0, 0, 0, 3), 2);
        Check.due("bound while it is not known", y.bound(0, 0, 0, 2), -1);
        Check.tell(y, "award b" + ALWAYS);
        Check.due("a quarrel", y.bound(0, 0, 0, 4), -2);
        Check.due("a quarrel that is not known", y.bound(0, 0, 0, 3), 2);
    }

    /** The NAME'S number of the class of each HALF from 0 on. */
    private static void classes(WageCourt x, int day, String... due) {
        int n = x.count(3);
        for (int half = 0; half < due.length; half++) {
            int name = due[half].isEmpty() ? -1 : Check.named(x, due[half]);
            Check.due("class of half " + half + " on day " + day, x.classed(0, day, half, n), name);
        }
    }

    private static void byEach() {
        Check.holds("Terms", "CLASS by that award as it is: the first one that has the TASK, by each.");
        WageCourt x = court("award a" + ALWAYS + "load l 1; class c tasks 1,2 margin 0; class d tasks 2,3,0 margin 9;"
                + " class e tasks 15,1,3 margin 99;");
        Check.row(x, 0, 0, 0, 1, 2, 3, 0, 15, 4);
        classes(x, 0, "c", "c", "d", "d", "e", "");
        Check.tell(x, "vary a from 0; strike c;");
        classes(x, 0, "e", "d", "d", "d", "e", "");
        Check.tell(x, "vary a from 0; class d tasks 4 margin 1; class c tasks 3,15 margin 1;");
        classes(x, 0, "e", "", "e", "", "e", "d");
        Check.due("class as known by 2", x.classed(0, 0, 0, 2), 2);
        Check.tell(x, "order a firm 1 from 0; strike e;");
        classes(x, 0, "e", "", "e", "", "e", "d");
    }

    private static void byMost() {
        Check.holds("Terms", "By most: of this PERSON's HALVES of the DAY bound by this award that have a class by each, that of"
                + " the most HALVES");
        WageCourt x = court("award a" + ALWAYS + "choose most; class c tasks 1 margin 90; class d tasks 2 margin 1; class e"
                + " tasks 3 margin 50;");
        Check.row(x, 0, 0, 0, 2, 2, 1);
        classes(x, 0, "d", "d", "d");
        Check.row(x, 0, 1, 0, 1, 2, 2, 1, 3, 2);
        classes(x, 1, "d", "d", "d", "d", "d", "d");
        Check.row(x, 0, 2, 0, 3);
        classes(x, 2, "e");
        Check.row(x, 0, 3, 0, 16, 9, 9, 9, 3, -1);
        classes(x, 3, "", "", "", "", "e", "");
        Check.row(x, 0, 4, 0, 9, 9);
        classes(x, 4, "", "");
        Check.row(x, 1, 0, 0, 1, 1, 1, 1);
        classes(x, 0, "d", "d", "d");
        x.row(0, 0, 3);
        x.cell(0, 2);
        x.cell(2, 1);
        classes(x, 0, "c", "", "c");
    }

    private static void byMostAlike() {
        Check.holds("Terms", "(of alike ones the greater MARGIN, then the first);");
        WageCourt x = court("award a" + ALWAYS + "choose most; class c tasks 1 margin 5; class d tasks 2 margin 6; class e tasks"
                + " 3 margin 6; class f tasks 4 margin 0 - 9999 - 5; class g tasks 5 margin 0 - 9999 - 9; class h tasks 6 margin"
                + " 9999 + 1; class i tasks 7 margin 9999 + 2;");
        Check.row(x, 0, 0, 0, 1, 2);
        classes(x, 0, "d", "d");
        Check.row(x, 0, 1, 0, 3, 2);
        classes(x, 1, "d", "d");
        Check.row(x, 0, 2, 0, 3, 1, 2);
        classes(x, 2, "d", "d", "d");
        Check.row(x, 0, 3, 0, 2, 1, 1);
        classes(x, 3, "c", "c", "c");
        Check.row(x, 0, 4, 0, 5, 4);
        classes(x, 4, "f", "f");
        Check.row(x, 0, 5, 0, 7, 6);
        classes(x, 5, "h", "h");
        WageCourt y = court("award a" + ALWAYS + "choose most; class c tasks 1 margin 20; class d tasks 2 margin years;");
        Check.row(y, 0, 0, 0, 1, 2);
        Check.row(y, 1, 0, 0, 1, 2);
        Check.due("class with years 0", y.classed(0, 0, 1, 3), 1);
        Check.due("class with years 40", y.classed(1, 0, 0, 3), 2);
    }

    private static void byMostBound() {
        WageCourt x = court("award a from 0; binds if half < 24; choose most; class c tasks 1 margin 1; class d tasks 2 margin"
                + " 2;", "award b from 0; binds if 24 <= half; choose most; class d tasks 1 margin 1; class c tasks 2 margin 2;",
                "award e from 0; binds if half == 0 or half == 47;");
        Check.row(x, 0, 0, 0, 2, 2, 1, 1);
        x.cell(23, 2);
        x.cell(24, 1);
        x.cell(25, 2);
        x.cell(46, 1);
        x.cell(47, 2);
        int c = 1;
        int d = 2;
        int n = x.count(3);
        Check.due("a quarrel's half", x.classed(0, 0, 0, n), -1);
        Check.due("class of what a binds, alike", x.classed(0, 0, 2, n), d);
        Check.due("class of what a binds last", x.classed(0, 0, 23, n), d);
        Check.due("class of what b binds first", x.classed(0, 0, 24, n), d);
        Check.due("class of what b binds", x.classed(0, 0, 25, n), d);
        Check.due("class while e is not known", x.classed(0, 0, 25, 2), -1);
        WageCourt y = court("award a from 0; binds if half < 24; choose most; class c tasks 1 margin 1; class d tasks 2 margin"
                + " 2;");
        Check.row(y, 0, 0, 20, 1, 1, 1, 2, 2, 2, 2, 2);
        Check.due("class by what is bound alone", y.classed(0, 0, 23, 2), c);
        Check.due("class of what is not bound", y.classed(0, 0, 24, 2), -1);
    }

    /** As many classes as there can be: 59 of one TASK, told by three TEXTS, and the award's own NAME. */
    private static void byMostOfSixty() {
        for (String way : new String[] {"most", "highest"}) {
            WageCourt x = court("award va" + ALWAYS + "choose " + way + ";");
            for (int text = 0; text < 3; text++) {
                StringBuilder told = new StringBuilder("vary va from 0;");
                for (int i = 20 * text; i < 20 * text + 20; i++) {
                    told.append("class ").append((char) ('v' + i / 26)).append((char) ('a' + i % 26)).append(" tasks ")
                            .append(i % 15).append(" margin ").append(i).append(';');
                }
                Check.tell(x, told.toString());
            }
            Check.tell(x, "vary va from 0; class " + (char) ('v' + 59 / 26) + (char) ('a' + 59 % 26) + " tasks 15 margin 3;");
            Check.due("names", x.count(5), 60);
            Check.row(x, 0, 0, 0, 1, 2, 15, 15);
            Check.due("class of 60 by " + way, x.classed(0, 0, 0, 6), 59);
            Check.row(x, 0, 1, 0, 1, 2, 15);
            Check.due("class of 60 by " + way + ", all alike", x.classed(0, 1, 2, 7), 59);
            Check.row(x, 0, 2, 0, 0, 1, 0);
            Check.due("class of 60 by " + way + ", the first two", x.classed(0, 2, 1, 8), way.equals("most") ? 0 : 1);
        }
    }

    private static void byHighest() {
        Check.holds("Terms", "by highest: that of the greatest MARGIN (then the first);");
        WageCourt x = court("award a" + ALWAYS + "choose highest; class c tasks 1 margin 5; class d tasks 2 margin 6; class e"
                + " tasks 3 margin 6; class f tasks 4 margin 0 - 9999 - 5; class g tasks 5 margin 0 - 9999 - 9; class h tasks 6"
                + " margin 9999 + 1; class i tasks 7 margin 9999 + 2; class j tasks 8 margin years;");
        Check.row(x, 0, 0, 0, 1, 1, 1, 2);
        classes(x, 0, "d", "d", "d", "d");
        Check.row(x, 0, 1, 0, 3, 2, 1);
        classes(x, 1, "d", "d", "d");
        Check.row(x, 0, 2, 0, 1);
        classes(x, 2, "c");
        Check.row(x, 0, 3, 0, 5, 4);
        classes(x, 3, "f", "f");
        Check.row(x, 0, 4, 0, 7, 6);
        classes(x, 4, "h", "h");
        Check.row(x, 0, 5, 0, 5);
        classes(x, 5, "g");
        Check.row(x, 0, 6, 0, 5, 9, 16, -1, 4);
        classes(x, 6, "f", "", "", "", "f");
        Check.row(x, 0, 7, 0, 8, 1);
        classes(x, 7, "c", "c");
        Check.row(x, 1, 7, 0, 8, 1);
        int n = x.count(3);
        Check.due("class of 40 years", x.classed(1, 7, 1, n), Check.named(x, "j"));
    }

    private static void chosenForEachThatHasOne() {
        Check.holds("Terms", "for each HALF that has one by each.");
        String[] ways = {"most", "highest"};
        for (String way : ways) {
            WageCourt x = court("award a" + ALWAYS + "choose " + way + "; class c tasks 1 margin 7; class d tasks 2 margin 1;");
            Check.row(x, 0, 0, 0, 1, 1, 2, 9, 16, -1, 1);
            classes(x, 0, "c", "c", "c", "", "", "", "c", "");
            Check.due("rate of the half of another task", x.rate(0, 0, 2, 2), 7);
            Check.due("worth of the unnamed half", x.worth(0, 0, 3, 2), 0);
        }
    }

    private static void classed() {
        Check.holds("Promise 30", "CLASS (its NAME) of a HALF by the award that binds it, as KNOWN by n; NONE: UNNAMED, not"
                + " BOUND, no such ones.");
        WageCourt x = withOneHalf();
        for (int[] w : wrongOnes()) {
            Check.due("classed" + Arrays.toString(w), x.classed(w[0], w[1], w[2], w[3]), -1);
        }
        Check.due("classed", x.classed(0, 0, 0, 2), 1);
        Check.due("classed of what is unnamed", x.classed(0, 0, 1, 2), -1);
        Check.due("classed of a break", x.classed(0, 0, 2, 2), -1);
        Check.due("classed of nothing", x.classed(0, 0, 3, 2), -1);
        Check.due("classed by 1", x.classed(0, 0, 0, 1), -1);
        x.stay(0, 0, 1);
        Check.due("classed of what is not bound", x.classed(0, 0, 0, 3), -1);
        Check.due("classed as known by 2", x.classed(0, 0, 0, 2), 1);
        WageCourt y = court("award a" + ALWAYS + "class c tasks 1 margin 0;", "agree a firm 0" + ALWAYS
                + "class d tasks 1, 2 margin 50;");
        Check.row(y, 0, 0, 0, 1, 2);
        Check.due("classed by the award, paid by the agree", y.classed(0, 0, 0, 3), 1);
        Check.due("classed of what the agree alone has", y.classed(0, 0, 1, 3), -1);
    }

    private static void unnamed() {
        Check.holds("Terms", "A TASK that no class has is UNNAMED: nothing is paid;");
        WageCourt x = court("award a" + ALWAYS + "class c tasks 1 margin 30; extra e 9; load l 50;");
        Check.row(x, 0, 0, 0, 0, 1, 2, 15);
        for (int half = 0; half < 4; half++) {
            Check.due("worth of half " + half, x.worth(0, 0, half, 2), half == 1 ? 30 * 150 + 1800 : 0);
            Check.due("payer of half " + half, x.payer(0, 0, half, 2), half == 1 ? 0 : -1);
            Check.due("rate of half " + half, x.rate(0, 0, half, 2), half == 1 ? 30 : -1);
            Check.due("counted of half " + half, x.counted(0, 0, half, 0, 2), half == 1 ? 2 : -1);
        }
        Check.due("halves unnamed", x.halves(0, 0, 2, 4), 3);
        WageCourt y = court("award a" + ALWAYS + "extra e 9;");
        Check.row(y, 0, 0, 0, 1);
        Check.due("worth by an award without classes", y.worth(0, 0, 0, 2), 0);
    }

    private static void nearest() {
        Check.holds("Terms", "NEAREST to it is the class with a TASK that has the most MARKS in common with it (one at least;"
                + " then the first).");
        WageCourt x = court("award a" + ALWAYS + "load l 1; class c tasks 1,2 margin 1; class d tasks 3,0 margin 2; class e tasks"
                + " 15 margin 3;");
        Check.row(x, 0, 0, 0, 9);
        x.marks(9, 0b01111110);
        int[][] marks = {{0, 0, 0, 0, 0, -1}, {0, 0, 0, 0, 0b10000001, -1}, {0, 0, 0, 0, 0b10, 4}, {0, 0, 0, 0b10, 0b10, 3},
            {0b10, 0, 0, 0, 0b10, 2}, {0b10, 0, 0, 0, 0b110, 4}, {0b10, 0b100, 0, 0, 0b110, 4}, {0b110, 0, 0b110, 0, 0, 2},
            {0, 0b110, 0, 0b1110, 0b111, 3}, {0b11111111, 0, 0b1111110, 0, 0b1111110, 2}, {0b11000000, 0b11, 0b110, 0, 0, 3},
            {0, 0, 0b1000000, 0b100, 0b1100000, 4}};
        int[] tasks = {1, 2, 3, 0, 15};
        for (int[] m : marks) {
            for (int i = 0; i < 5; i++) {
                x.marks(tasks[i], m[i]);
            }
            Check.due("nearest with marks " + Arrays.toString(m), x.nearest(0, 0, 0, 2), m[5]);
        }
        x.marks(9, 0);
        Check.due("nearest of a task without marks", x.nearest(0, 0, 0, 2), -1);
        x.marks(9, 255);
        x.marks(4, 255);
        Check.due("nearest beside a task of no class", x.nearest(0, 0, 0, 2), 4);
        Check.tell(x, "vary a from 0; strike e; class f tasks 4 margin 1;");
        Check.due("nearest as it is", x.nearest(0, 0, 0, 3), Check.named(x, "f"));
        Check.due("nearest as known", x.nearest(0, 0, 0, 2), 4);
    }

    private static void nearestOfOthers() {
        Check.holds("Promise 31", "The class (its NAME) of the award that binds a HALF that is NEAREST to its TASK, if that is"
                + " UNNAMED, as KNOWN by n; NONE: none, others.");
        WageCourt x = withOneHalf();
        for (int task = 0; task < 16; task++) {
            x.marks(task, 255);
        }
        for (int[] w : wrongOnes()) {
            Check.due("nearest" + Arrays.toString(w), x.nearest(w[0], w[1], w[2] == 0 ? 1 : w[2], w[3]), -1);
        }
        Check.due("nearest of what has a class", x.nearest(0, 0, 0, 2), -1);
        Check.due("nearest", x.nearest(0, 0, 1, 2), 1);
        Check.due("nearest of a break", x.nearest(0, 0, 2, 2), -1);
        Check.due("nearest of nothing", x.nearest(0, 0, 3, 2), -1);
        Check.due("nearest by 1", x.nearest(0, 0, 1, 1), -1);
        x.stay(0, 0, 1);
        Check.due("nearest of what is not bound", x.nearest(0, 0, 1, 3), -1);
        WageCourt y = court("award a" + ALWAYS, "agree a firm 0" + ALWAYS + "class d tasks 1 margin 50;");
        y.marks(2, 1);
        y.marks(1, 1);
        Check.row(y, 0, 0, 0, 2);
        Check.due("nearest in an agree's classes", y.nearest(0, 0, 0, 3), -1);
        WageCourt z = court("award a" + ALWAYS + "class c tasks 1 margin 1;", "agree a firm 0" + ALWAYS
                + "class d tasks 2 margin 50;");
        z.marks(2, 1);
        z.marks(1, 1);
        Check.row(z, 0, 0, 0, 2);
        Check.due("nearest of what an agree pays", z.nearest(0, 0, 0, 3), 1);
        Check.due("payer of it", z.payer(0, 0, 0, 3), 1);
    }
}
