import java.util.Arrays;

/** Boundary cases of RATE, loads, extras, WORTH, agrees and PAY (Terms, IV), and of promises 32 to 36. */
final class EdgePayTest {
    private static final int LEAST = Integer.MIN_VALUE;
    private static final int MOST = Integer.MAX_VALUE;
    private static final String ALWAYS = " from 0; binds if 0 == 0; ";

    public static void main(String[] args) {
        rates();
        countsByCond();
        countsByBars();
        barsOfNames();
        oneLoad();
        allLoads();
        oneExtra();
        allExtras();
        greatestWorth();
        agreeOfTheAward();
        lastAgree();
        agreeLikewise();
        agreeByMost();
        greaterCounts();
        payers();
        ratesOfPayers();
        countedOfPayers();
        worths();
        payTogether();
        payRounded();
        payRoundSteps();
        payLastDay();
        payOfNoSuchOnes();
        Check.end();
    }

    /** A town, two firms, a person at each; the first has YEARS 3. */
    private static WageCourt court(String... texts) {
        WageCourt x = new WageCourt();
        x.town();
        x.firm(0, 0);
        x.firm(0, 1);
        x.person(0, 0, 3);
        x.person(1, 0, 0);
        for (String text : texts) {
            Check.tell(x, text);
        }
        return x;
    }

    private static void rates() {
        Check.holds("Terms", "RATE: THE LEAST and the MARGIN, at least 0, in pence an hour.");
        int[] margins = {-9999, -12, -11, -10, -9, 0, 9999};
        int[] due = {0, 0, 0, 0, 1, 10, 10009};
        for (int i = 0; i < margins.length; i++) {
            String sum = margins[i] < 0 ? "0 - " + -margins[i] : "" + margins[i];
            WageCourt x = court("award a" + ALWAYS + "class c tasks 1 margin " + sum + "; extra e 1; extra f 2 if rate == "
                    + due[i] / 2 + " + " + (due[i] - due[i] / 2) + ";");
            x.price(0, 0, 0, 10);
            Check.row(x, 0, 0, 0, 1);
            Check.due("rate of margin " + margins[i], x.rate(0, 0, 0, 3), due[i]);
            Check.due("worth of margin " + margins[i], x.worth(0, 0, 0, 3), 100 * due[i] + 600);
        }
        WageCourt x = court("award a" + ALWAYS + "class c tasks 1 margin 9999 + 9;");
        for (int good = 0; good < 4; good++) {
            x.weight(good, 9);
            x.price(0, 0, good, 99);
        }
        Check.row(x, 0, 0, 0, 1);
        Check.due("the greatest rate", x.rate(0, 0, 0, 6), 4 * 9 * 99 + 9999);
        Check.due("its worth", x.worth(0, 0, 0, 6), 100 * (4 * 9 * 99 + 9999));
    }

    /** WORTH of a HALF of RATE 10 with those ITEMS. */
    private static int worthWith(String items) {
        WageCourt x = court("award a" + ALWAYS + "class c tasks 1 margin 10;" + items);
        Check.row(x, 0, 0, 0, 1);
        return x.worth(0, 0, 0, 2);
    }

    private static void countsByCond() {
        Check.holds("Terms", "ITEM by ITEM (load, extra) as they stand: one counts if its COND holds (or it has none)");
        Check.due("none", worthWith(""), 1000);
        Check.due("without cond", worthWith("load l 10;"), 1100);
        Check.due("with a cond that holds", worthWith("load l 10 if task == 1;"), 1100);
        Check.due("with a cond that doesn't hold", worthWith("load l 10 if task == 2;"), 1000);
        Check.due("an extra without cond", worthWith("extra e 1;"), 1200);
        Check.due("an extra with a cond that holds", worthWith("extra e 1 if years == 3;"), 1200);
        Check.due("an extra with a cond that doesn't", worthWith("extra e 1 if years == 2;"), 1000);
        Check.due("by the rate", worthWith("load l 10 if rate == 10; load m 5 if rate < 10;"), 1100);
        Check.due("ahead of the class", worthWithAhead("load l 10; extra e 1;"), 1300);
    }

    private static int worthWithAhead(String items) {
        WageCourt x = court("award a" + ALWAYS + items + "class c tasks 1 margin 10;");
        Check.row(x, 0, 0, 0, 1);
        return x.worth(0, 0, 0, 2);
    }

    private static void countsByBars() {
        Check.holds("Terms", "and none that counted ahead bars its NAME;");
        Check.due("barred by one ahead", worthWith("load l 10 bars m; load m 20;"), 1100);
        Check.due("not barred by one behind", worthWith("load l 10; load m 20 bars l;"), 1300);
        Check.due("not barred by one that doesn't count", worthWith("load l 10 if 0 == 1 bars m; load m 20;"), 1200);
        Check.due("not barred by one that is barred", worthWith("load l 10 bars m; load m 20 bars n; load n 40;"), 1500);
        Check.due("not barred by itself", worthWith("load l 10 bars l;"), 1100);
        Check.due("barred by one of 0", worthWith("load l 0 bars m; load m 20;"), 1000);
        Check.due("barred by an extra", worthWith("extra e 1 bars m; load m 20;"), 1200);
        Check.due("an extra barred by a load", worthWith("load l 10 bars e; extra e 1;"), 1100);
        Check.due("barred by the second bars", worthWith("load l 10 bars x bars m; load m 20;"), 1100);
        Check.due("barred by the fourth bars", worthWith("load l 10 bars x bars y bars z bars m; load m 20;"), 1100);
        Check.due("two barred", worthWith("load l 10 bars m bars n; load m 20; load n 40; load o 80;"), 1900);
        Check.due("barred by the second that counted", worthWith("load l 10; load k 1 bars m; load m 20;"), 1110);
        Check.due("a class is barred by none", worthWith("load l 10 bars c;"), 1100);
        Check.due("one behind another that is barred", worthWith("load l 10 bars m; load m 20; load n 40;"), 1500);
    }

    /** Of 60 NAMES the first bars the last, and others; then the first stands behind all. */
    private static void barsOfNames() {
        WageCourt x = court("award va" + ALWAYS);
        for (int text = 0; text < 3; text++) {
            StringBuilder told = new StringBuilder("vary va from 0;");
            for (int i = 20 * text; i < 20 * text + 20; i++) {
                told.append(i == 1 ? "class " : "extra ").append(letters(i)).append(i == 1 ? " tasks 1 margin 0;" : " 1;");
            }
            Check.tell(x, told.toString());
        }
        Check.row(x, 0, 0, 0, 1);
        Check.due("names", x.count(5), 60);
        Check.due("worth of 59 extras", x.worth(0, 0, 0, 5), 200 * 59);
        String bars = " bars " + letters(59) + " bars " + letters(32) + " bars " + letters(31) + " bars " + letters(2);
        Check.tell(x, "vary va from 0; extra va 1" + bars + ";");
        Check.due("worth without four of them", x.worth(0, 0, 0, 6), 200 * 55);
        int[] asked = {0, 1, 27, 28, 29, 54, 55};
        int[] due = {0, 3, 29, 30, 33, 58, -1};
        for (int i = 0; i < asked.length; i++) {
            Check.due("counted " + asked[i], x.counted(0, 0, 0, asked[i], 6), due[i]);
        }
        Check.tell(x, "vary va from 0; strike va; extra va 1" + bars + ";");
        Check.due("worth with it behind all", x.worth(0, 0, 0, 7), 200 * 59);
        Check.due("the first that counts", x.counted(0, 0, 0, 0, 7), 2);
        Check.due("the last that counts", x.counted(0, 0, 0, 58, 7), 0);
    }

    private static String letters(int i) {
        return (char) ('v' + i / 26) + "" + (char) ('a' + i % 26);
    }

    private static String number(int v) {
        return v < 0 ? "0 - " + -v : "" + v;
    }

    private static void oneLoad() {
        Check.holds("Terms", "a load's E (held to -100 .. 400) is so many of a hundred more,");
        int[] loads = {-9999, -101, -100, -99, -1, 0, 1, 399, 400, 401, 9999};
        int[] due = {0, 0, 0, 10, 990, 1000, 1010, 4990, 5000, 5000, 5000};
        for (int i = 0; i < loads.length; i++) {
            Check.due("a load of " + loads[i], worthWith("load l " + number(loads[i]) + ";"), due[i]);
            Check.due("a load of " + loads[i] + " and one of 7", worthWith("load l " + number(loads[i]) + "; load m 7;"),
                    due[i] + 70);
        }
        Check.due("a load of the greatest int", worthWith("load l 8192 * 8192 * 32 - 1;"), 5000);
        Check.due("a load of the least int", worthWith("load l 8192 * 8192 * 32;"), 0);
        Check.due("a load that wraps to 0", worthWith("load l 8192 * 8192 * 64;"), 1000);
    }

    private static void allLoads() {
        Check.holds("Terms", "THE WORTH of the HALF, in parts of 200 of a penny: RATE times (100 and all loads, held to 0 .."
                + " 1000),");
        int[] rest = {0, 1, 98, 99, 100, 101, 102, 400};
        for (int v : rest) {
            Check.due("loads of 800 and " + v, worthWith("load l 400; load m 400; load n " + v + ";"),
                    10 * Math.min(1000, 900 + v));
            Check.due("loads of 500 and " + v, worthWith("load l 100; load m 400; load n " + v + ";"), 10 * (600 + v));
            Check.due("loads of -" + v, worthWith("load l " + number(-Math.min(v, 60)) + "; load m " + number(-v) + ";"),
                    10 * Math.max(0, 100 - Math.min(v, 60) - Math.min(100, v)));
        }
        Check.due("loads of -99", worthWith("load l 0 - 99;"), 10);
        Check.due("loads of -100 in two", worthWith("load l 0 - 60; load m 0 - 40;"), 0);
        Check.due("loads of -101 in two", worthWith("load l 0 - 60; load m 0 - 41;"), 0);
        Check.due("loads of -99 in two and an extra", worthWith("load l 0 - 60; load m 0 - 39; extra e 1;"), 210);
        Check.due("loads of -100 in two and an extra", worthWith("load l 0 - 60; load m 0 - 40; extra e 1;"), 200);
        Check.due("loads of -101 in two and an extra", worthWith("load l 0 - 60; load m 0 - 41; extra e 1;"), 200);
        Check.due("loads of -200 in two and an extra", worthWith("load l 0 - 100; load m 0 - 100; extra e 1;"), 200);
        Check.due("loads of -200 and 150", worthWith("load l 0 - 100; load m 0 - 100; load n 150;"), 500);
        Check.due("loads of 1600 and -100", worthWith("load l 400; load m 400; load n 400; load o 400; load p 0 - 100;"
                + " load q 0 - 100; load r 0 - 100; load s 0 - 100; load t 0 - 100; load u 0 - 100; load v 0 - 100;"
                + " load w 0 - 100;"), 9000);
        StringBuilder many = new StringBuilder();
        for (int i = 0; i < 28; i++) {
            many.append("load l").append((char) ('a' + i % 14)).append((char) ('a' + i / 14)).append(" 400;");
        }
        Check.due("28 loads of 400", worthWith(many.toString()), 10000);
    }

    private static void oneExtra() {
        Check.holds("Terms", "an extra's E (0 .. 999) so many pence more for the HALF.");
        int[] extras = {-9999, -1, 0, 1, 998, 999, 1000, 9999};
        int[] due = {0, 0, 0, 1, 998, 999, 999, 999};
        for (int i = 0; i < extras.length; i++) {
            Check.due("an extra of " + extras[i], worthWith("extra e " + number(extras[i]) + ";"), 1000 + 200 * due[i]);
            Check.due("an extra of " + extras[i] + " and one of 7", worthWith("extra e " + number(extras[i])
                    + "; extra f 7;"), 1000 + 200 * (due[i] + 7));
        }
        Check.due("an extra of the greatest int", worthWith("extra e 8192 * 8192 * 32 - 1;"), 1000 + 200 * 999);
        Check.due("an extra of the least int", worthWith("extra e 8192 * 8192 * 32;"), 1000);
        Check.due("an extra beside loads of -100", worthWith("load l 0 - 100; extra e 3;"), 600);
        Check.due("an extra is not loaded", worthWith("load l 100; extra e 3; load m 100;"), 3600);
    }

    private static void allExtras() {
        Check.holds("Terms", "and 200 times all extras (together 9999 at most).");
        StringBuilder ten = new StringBuilder();
        for (int i = 0; i < 10; i++) {
            ten.append("extra e").append((char) ('a' + i)).append(" 999;");
        }
        int[] rest = {0, 7, 8, 9, 10, 11, 999};
        for (int v : rest) {
            Check.due("extras of 9990 and " + v, worthWith(ten + "extra f " + v + ";"), 1000 + 200 * Math.min(9999, 9990 + v));
        }
        Check.due("extras of 9990 and 9999", worthWith(ten + "extra f 9999; extra g 9;"), 1000 + 200 * 9999);
    }

    private static void greatestWorth() {
        StringBuilder text = new StringBuilder("award a" + ALWAYS + "class c tasks 1 margin 9999;");
        for (int i = 0; i < 14; i++) {
            text.append("extra e").append((char) ('a' + i)).append(" 999;");
        }
        WageCourt x = court(text + "load l 400; load m 400; load n 400;");
        for (int good = 0; good < 4; good++) {
            x.weight(good, 9);
            x.price(0, 0, good, 99);
        }
        int[] full = new int[48];
        Arrays.fill(full, 1);
        for (int day = 0; day < 7; day++) {
            Check.row(x, 0, day, 0, full);
        }
        int n = x.count(3);
        long worth = 13563L * 1000 + 200 * 9999;
        Check.due("the greatest worth", x.worth(0, 6, 47, n), worth);
        Check.due("the greatest pay", x.pay(0, 0, n), (worth * 336 + 100) / 200);
        Check.due("what is owed of it", x.owed(0, 0, n), (worth * 336 + 100) / 200);
    }

    private static void agreeOfTheAward() {
        Check.holds("Terms", "With an agree of that award in force at the FIRM of which some binds COND holds");
        String[] texts = {"agree a firm 0" + ALWAYS, "agree b firm 0" + ALWAYS, "agree a firm 1" + ALWAYS,
            "agree a firm 0 from 0; ", "agree a firm 0 from 0; binds if 0 == 1; ", "agree a firm 0 from 6; binds if 0 == 0; ",
            "agree a firm 0 from 5; binds if 0 == 1; binds if 0 == 0; binds if 0 == 1; ", "agree a firm 0 from 0; binds if half"
            + " == 0; ", "agree a firm 0 from 0; binds if half != 0; "};
        int[] due = {3, 0, 0, 0, 0, 0, 3, 3, 0};
        for (int i = 0; i < texts.length; i++) {
            WageCourt x = court("award a" + ALWAYS + "class c tasks 1 margin 10;", "award b from 0;");
            Check.row(x, 0, 5, 0, 1);
            Check.tell(x, texts[i] + "class c tasks 1 margin 50;");
            Check.due("payer with " + texts[i], x.payer(0, 5, 0, 4), due[i]);
            Check.due("payer while it is not known", x.payer(0, 5, 0, 3), 0);
            x.stay(3, 5, 6);
            Check.due("payer while it is stayed", x.payer(0, 5, 0, 5), 0);
        }
        WageCourt late = court("award a from 5; binds if 0 == 0; class c tasks 1 margin 10;", "agree a firm 0" + ALWAYS
                + "class c tasks 1 margin 50;");
        Check.row(late, 0, 5, 0, 1);
        Check.row(late, 0, 4, 0, 1);
        Check.due("payer by an agree from a day ahead of the award's", late.payer(0, 5, 0, 4), 1);
        Check.due("payer ahead of the award", late.payer(0, 4, 0, 4), -1);
        WageCourt x = court("award a from 0; binds if half < 1; class c tasks 1 margin 10;", "agree a firm 0" + ALWAYS
                + "class c tasks 1 margin 50;");
        Check.row(x, 0, 0, 0, 1, 1);
        Check.due("payer of what the award binds", x.payer(0, 0, 0, 3), 1);
        Check.due("payer of what the award does not bind", x.payer(0, 0, 1, 3), -1);
        Check.due("worth of it", x.worth(0, 0, 1, 3), 0);
    }

    private static void lastAgree() {
        Check.holds("Terms", "(the last such one, by 'from' DAYS, then FACTS):");
        WageCourt x = court("award a" + ALWAYS + "class c tasks 1 margin 10;");
        for (int day = 3; day < 9; day++) {
            Check.row(x, 0, day, 0, 1);
        }
        int[][] agrees = {{5, 50}, {4, 90}, {5, 40}, {6, 30}, {3, 80}, {6, 20}};
        for (int[] a : agrees) {
            Check.tell(x, "agree a firm 0 from " + a[0] + "; binds if 0 == 0; class c tasks 1 margin " + a[1] + ";");
        }
        int first = 7;
        int[][] byDay = {{3, 80}, {4, 90}, {5, 40}, {6, 20}, {8, 20}};
        for (int[] d : byDay) {
            Check.due("rate on day " + d[0], x.rate(0, d[0], 0, first + 6), d[1]);
        }
        int[] byFact = {10, 50, 50, 40, 30, 30, 20};
        for (int i = 0; i <= 6; i++) {
            Check.due("rate on day 8, so many agrees known: " + i, x.rate(0, 8, 0, first + i), byFact[i]);
        }
        x.stay(first + 5, 8, 9);
        Check.due("rate while the last one is stayed", x.rate(0, 8, 0, first + 7), 30);
        Check.tell(x, "agree a firm 0 from 7; binds if 0 == 1; class c tasks 1 margin 99;");
        Check.due("rate with a later one that binds nobody", x.rate(0, 8, 0, first + 8), 30);
        Check.tell(x, "agree a firm 0 from 7; binds if 0 == 0;");
        Check.due("rate with a later one without classes", x.rate(0, 8, 0, first + 9), 10);
    }

    private static void agreeLikewise() {
        Check.holds("Terms", "its WORTH is reckoned likewise by that text (its choose, its classes;");
        Check.holds("Terms", "UNNAMED: 0);");
        WageCourt x = court("award a" + ALWAYS + "choose highest; class c tasks 1 margin 10; class d tasks 2 margin 30; load l 50"
                + " bars m; extra e 1;", "agree a firm 0" + ALWAYS + "class c tasks 1 margin 40; load m 10 bars e; extra f 2;"
                + " load e 90;");
        Check.row(x, 0, 0, 0, 1, 2, 3);
        Check.due("worth by the agree", x.worth(0, 0, 0, 3), 40 * 110 + 400);
        Check.due("payer of it", x.payer(0, 0, 0, 3), 1);
        Check.due("worth of what the agree has not", x.worth(0, 0, 1, 3), 30 * 150 + 200);
        Check.due("payer of it", x.payer(0, 0, 1, 3), 0);
        Check.due("worth of what neither has", x.worth(0, 0, 2, 3), 0);
        WageCourt y = court("award a" + ALWAYS + "class c tasks 1 margin 10;", "agree a firm 0" + ALWAYS + "choose highest;"
                + " choose highest; class d tasks 1 margin 40; class e tasks 2 margin 50;");
        Check.row(y, 0, 0, 0, 1, 2, 1, 3);
        int[] due = {50, 50, 50, -1};
        for (int half = 0; half < 4; half++) {
            Check.due("rate by the agree's choose", y.rate(0, 0, half, 3), due[half]);
            Check.due("class by the award's", y.classed(0, 0, half, 3), half % 2 == 0 ? 1 : -1);
        }
    }

    private static void agreeByMost() {
        Check.holds("Terms", "by most: of the HALVES of the DAY that are so looked at by it;");
        WageCourt x = court("award a from 0; binds if half < 6; class c tasks 1,2,9 margin 1;",
                "agree a firm 0 from 0; binds if 1 <= half; choose most; class d tasks 1 margin 10; class e tasks 2 margin 5;");
        Check.row(x, 0, 0, 0, 2, 2, 1, 1, 2, 9, 2, 2, 2);
        int[] due = {1, 10, 10, 10, 10, 1, -1, -1, -1};
        for (int half = 0; half < due.length; half++) {
            Check.due("rate of half " + half + ", of alike ones", x.rate(0, 0, half, 3), due[half]);
        }
        Check.tell(x, "agree a firm 0 from 0; binds if half == 2; class d tasks 1 margin 70;");
        int[] then = {1, 5, 70, 5, 5, 1};
        for (int half = 0; half < then.length; half++) {
            Check.due("rate of half " + half + ", one looked at by another", x.rate(0, 0, half, 4), then[half]);
        }
        WageCourt y = court("award a from 0; binds if weekday == 0 or half < 3; class c tasks 1,2 margin 1;",
                "agree a firm 0" + ALWAYS + "choose most; class d tasks 1 margin 10; class e tasks 2 margin 5;");
        Check.row(y, 0, 0, 0, 2, 2, 2, 2, 2, 2);
        Check.row(y, 0, 1, 0, 1, 1, 2, 2, 2, 2);
        Check.due("rate on one day", y.rate(0, 0, 5, 4), 5);
        Check.due("rate on the next, where fewer halves are bound", y.rate(0, 1, 2, 4), 10);
        Check.due("rate of what is not bound", y.rate(0, 1, 5, 4), -1);
        Check.due("pay of both days", y.pay(0, 0, 4), (6 * 5 + 3 * 10) / 2);
    }

    private static void greaterCounts() {
        Check.holds("Terms", "the greater of both counts, the award's if they are alike.");
        Check.due("a worth of 1", payerOf("class c tasks 1 margin 1; load l 0 - 99;"), 0);
        Check.due("a worth of 0", payerOf("class c tasks 1 margin 1; load l 0 - 100;"), -1);
        int[][] both = {{10, 9, 0}, {10, 10, 0}, {10, 11, 1}, {0, 1, 1}, {1, 0, 0}, {0, 0, -1}};
        for (int[] b : both) {
            WageCourt x = court("award a" + ALWAYS + "class c tasks 1 margin " + b[0] + ";", "agree a firm 0" + ALWAYS
                    + "class d tasks 1 margin " + b[1] + ";");
            Check.row(x, 0, 0, 0, 1);
            Check.due("payer of " + b[0] + " and " + b[1], x.payer(0, 0, 0, 3), b[2]);
            Check.due("worth of " + b[0] + " and " + b[1], x.worth(0, 0, 0, 3), 100 * Math.max(b[0], b[1]));
            Check.due("rate of " + b[0] + " and " + b[1], x.rate(0, 0, 0, 3), b[2] < 0 ? -1 : Math.max(b[0], b[1]));
        }
        WageCourt x = court("award a" + ALWAYS + "class c tasks 1 margin 10;", "agree a firm 0" + ALWAYS
                + "class d tasks 1 margin 8; extra e 1;", "agree a firm 1" + ALWAYS + "class d tasks 1 margin 9; load l 11;");
        Check.row(x, 0, 0, 0, 1);
        Check.row(x, 1, 0, 0, 1);
        Check.due("payer of alike worth by an extra", x.payer(0, 0, 0, 5), 0);
        Check.due("payer of 999 and 1000", x.payer(1, 0, 0, 5), 0);
    }

    private static int payerOf(String items) {
        WageCourt x = court("award a" + ALWAYS + items);
        Check.row(x, 0, 0, 0, 1);
        return x.payer(0, 0, 0, 2);
    }

    /** Wrong ones of PERSON, DAY, HALF, n, with two FACTS. */
    private static int[][] wrongOnes() {
        return new int[][] {{-1, 0, 0, 2}, {2, 0, 0, 2}, {LEAST, 0, 0, 2}, {MOST, 0, 0, 2}, {0, -1, 0, 2}, {0, 140, 0, 2},
            {0, LEAST, 0, 2}, {0, MOST, 0, 2}, {0, 0, -1, 2}, {0, 0, 48, 2}, {0, 0, LEAST, 2}, {0, 0, MOST, 2}, {0, 0, 0, -1},
            {0, 0, 0, 3}, {0, 0, 0, LEAST}, {0, 0, 0, MOST}};
    }

    /** HALVES: one that is paid, one UNNAMED, one of WORTH 0, a BREAK, NOTHING. */
    private static WageCourt withHalves() {
        WageCourt x = court("award a" + ALWAYS + "class c tasks 1 margin 30; class d tasks 3 margin 0; load l 10; load m 0;");
        Check.row(x, 0, 0, 0, 1, 2, 3, 16, -1);
        return x;
    }

    private static void payers() {
        Check.holds("Promise 32", "By which TEXT (the award, or the agree that gives more) a HALF is paid, as KNOWN by n; NONE:"
                + " nothing is (also a WORTH of 0).");
        WageCourt x = withHalves();
        for (int[] w : wrongOnes()) {
            Check.due("payer" + Arrays.toString(w), x.payer(w[0], w[1], w[2], w[3]), -1);
        }
        int[] due = {0, -1, -1, -1, -1};
        for (int half = 0; half < 5; half++) {
            Check.due("payer of half " + half, x.payer(0, 0, half, 2), due[half]);
            Check.due("payer of half " + half + " by 1", x.payer(0, 0, half, 1), -1);
        }
        x.wet(0, 0, 0);
        Check.tell(x, "agree a firm 0" + ALWAYS + "class d tasks 1,2,3 margin 31;");
        int[] then = {0, 3, 3, -1, -1};
        for (int half = 0; half < 5; half++) {
            Check.due("payer of half " + half + " with an agree", x.payer(0, 0, half, 4), then[half]);
            Check.due("payer of half " + half + " as known", x.payer(0, 0, half, 3), due[half]);
        }
        x.stay(0, 0, 1);
        Check.due("payer of what is not bound", x.payer(0, 0, 0, 5), -1);
    }

    private static void ratesOfPayers() {
        Check.holds("Promise 33", "RATE of a HALF by the TEXT that pays it, as KNOWN by n; NONE: nothing is paid.");
        WageCourt x = withHalves();
        for (int[] w : wrongOnes()) {
            Check.due("rate" + Arrays.toString(w), x.rate(w[0], w[1], w[2], w[3]), -1);
        }
        int[] due = {30, -1, -1, -1, -1};
        for (int half = 0; half < 5; half++) {
            Check.due("rate of half " + half, x.rate(0, 0, half, 2), due[half]);
        }
        Check.tell(x, "agree a firm 0" + ALWAYS + "class d tasks 1,2,3 margin 0 - 5; extra e 500 if task == 1 or task == 3;");
        int[] then = {0, -1, 0, -1, -1};
        for (int half = 0; half < 5; half++) {
            Check.due("rate of half " + half + " by an agree that pays by its extra", x.rate(0, 0, half, 3), then[half]);
        }
        Check.due("rate as known", x.rate(0, 0, 0, 2), 30);
        Check.due("rate by 1", x.rate(0, 0, 0, 1), -1);
    }

    private static void countedOfPayers() {
        Check.holds("Promise 34", "The NAME of the k-th load or extra that counts for a HALF by the TEXT that pays it, as KNOWN by"
                + " n; NONE: not so many, nothing is paid.");
        WageCourt x = withHalves();
        for (int[] w : wrongOnes()) {
            Check.due("counted" + Arrays.toString(w), x.counted(w[0], w[1], w[2], 0, w[3]), -1);
        }
        int[] asked = {0, 1, 2, -1, 59, 60, LEAST, MOST};
        int[] due = {3, 4, -1, -1, -1, -1, -1, -1};
        for (int i = 0; i < asked.length; i++) {
            Check.due("counted " + asked[i], x.counted(0, 0, 0, asked[i], 2), due[i]);
            for (int half = 1; half < 5; half++) {
                Check.due("counted " + asked[i] + " of half " + half, x.counted(0, 0, half, asked[i], 2), -1);
            }
        }
        Check.tell(x, "agree a firm 0" + ALWAYS + "class d tasks 1 margin 31; extra f 0 if half == 1; extra l 9; extra g 1 bars m"
                + " bars h; load m 9; load h 9; load k 1;");
        int[] then = {3, Check.named(x, "g"), Check.named(x, "k"), -1};
        for (int k = 0; k < 4; k++) {
            Check.due("counted " + k + " by an agree", x.counted(0, 0, 0, k, 3), then[k]);
            Check.due("counted " + k + " as known", x.counted(0, 0, 0, k, 2), k < 2 ? due[k] : -1);
        }
        WageCourt none = court("award a" + ALWAYS + "class c tasks 1 margin 1;");
        Check.row(none, 0, 0, 0, 1);
        Check.due("counted where none is", none.counted(0, 0, 0, 0, 2), -1);
    }

    private static void worths() {
        Check.holds("Promise 35", "WORTH of a HALF (in parts of 200 of a penny), as KNOWN by n; 0: nothing is paid, no such"
                + " ones.");
        WageCourt x = withHalves();
        for (int[] w : wrongOnes()) {
            Check.due("worth" + Arrays.toString(w), x.worth(w[0], w[1], w[2], w[3]), 0);
        }
        int[] due = {3300, 0, 0, 0, 0};
        for (int half = 0; half < 5; half++) {
            Check.due("worth of half " + half, x.worth(0, 0, half, 2), due[half]);
            Check.due("worth of half " + half + " by 1", x.worth(0, 0, half, 1), 0);
        }
        Check.due("worth of an empty day", x.worth(0, 139, 47, 2), 0);
    }

    private static void payTogether() {
        Check.holds("Terms", "PAY of a WEEK: of each award the WORTH of all HALVES that it binds, together, by 200,");
        Check.holds("Terms", "all awards together.");
        WageCourt x = court("award a from 0; binds if half < 10; class c tasks 1 margin 1;",
                "award b from 0; binds if 10 <= half; class c tasks 1 margin 1;", "agree a firm 0 from 0; binds if half == 1; class"
                + " c tasks 1 margin 3;");
        Check.row(x, 0, 0, 0, 1);
        Check.row(x, 0, 6, 0, 1);
        Check.due("two halves of half a penny by one award", x.pay(0, 0, 5), 1);
        Check.row(x, 0, 3, 10, 1);
        Check.due("one more of half a penny by another", x.pay(0, 0, 6), 2);
        Check.row(x, 0, 4, 10, 1);
        Check.due("two by each", x.pay(0, 0, 7), 2);
        Check.row(x, 0, 5, 0, 1);
        Check.due("three by one, two by the other", x.pay(0, 0, 8), 3);
        Check.row(x, 0, 5, 1, 1);
        Check.due("one of them by an agree", x.pay(0, 0, 9), 4);
        Check.row(x, 0, 7, 0, 1);
        Check.due("the next week alone", x.pay(0, 1, 10), 1);
        Check.due("the week as it was", x.pay(0, 0, 10), 4);
    }

    /** PAY for one HALF of that WORTH, with that round. */
    private static int payOf(int worth, int step) {
        int pence = worth / 200;
        int rest = worth % 200 - 100;
        WageCourt x = court("award a" + ALWAYS + "class c tasks 1 margin 1; load l " + number(rest) + "; extra e "
                + Math.min(pence, 999) + "; extra f " + Math.max(0, pence - 999) + "; round " + step + ";");
        Check.row(x, 0, 0, 0, 1);
        Check.due("worth", x.worth(0, 0, 0, 2), worth);
        return x.pay(0, 0, 2);
    }

    private static void payRounded() {
        Check.holds("Terms", "rounded to the next whole number of its round's pence (a half up;");
        int[] steps = {1, 2, 3, 7, 12, 239, 240};
        for (int step : steps) {
            for (int times = 0; times < 3; times++) {
                int whole = 200 * step * times;
                int[] more = {0, 1, 100 * step - 1, 100 * step, 100 * step + 1, 200 * step - 1};
                for (int m : more) {
                    Check.due("pay of " + (whole + m) + " parts, round " + step, payOf(whole + m, step),
                            step * (times + (m >= 100 * step ? 1 : 0)));
                }
            }
        }
    }

    private static void payRoundSteps() {
        WageCourt x = court("award a from 0; binds if half < 10; class c tasks 1 margin 7; round 5;",
                "award b from 0; binds if 10 <= half; class c tasks 1 margin 7; round 4;");
        Check.row(x, 0, 0, 8, 1, 1, 1, 1);
        Check.due("each award by its own round", x.pay(0, 0, 3), 5 + 8);
        Check.row(x, 0, 1, 8, 1, 1, 1);
        Check.due("each award by its own round", x.pay(0, 0, 4), 15 + 12);
    }

    private static void payLastDay() {
        Check.holds("Terms", "round as it is on the WEEK's last DAY at the FIRM, 1 if the award is not in force then);");
        WageCourt x = court("award a" + ALWAYS + "class c tasks 1 margin 16; round 5;");
        Check.row(x, 0, 7, 0, 1);
        Check.due("pay of 8", x.pay(0, 1, 2), 10);
        Check.tell(x, "vary a from 6; round 6;");
        Check.due("round of a day ahead of the week", x.pay(0, 1, 3), 6);
        Check.tell(x, "vary a from 13; round 7;");
        Check.due("round from its last day", x.pay(0, 1, 4), 7);
        Check.tell(x, "vary a from 14; round 100;");
        Check.due("round from the day behind it", x.pay(0, 1, 5), 7);
        Check.tell(x, "order a firm 1 from 13; round 100;");
        Check.due("round at another firm", x.pay(0, 1, 6), 7);
        Check.tell(x, "order a firm 0 from 13; round 3;");
        Check.due("round at the firm", x.pay(0, 1, 7), 9);
        x.stay(6, 12, 13);
        Check.due("round of an order stayed the day ahead", x.pay(0, 1, 8), 9);
        x.stay(6, 13, 14);
        Check.due("round of an order stayed on the last day", x.pay(0, 1, 9), 7);
        x.stay(0, 12, 13);
        Check.due("an award stayed the day ahead", x.pay(0, 1, 10), 7);
        x.stay(0, 13, 14);
        Check.due("an award that is not in force then", x.pay(0, 1, 11), 8);
        x.stay(0, 7, 8);
        Check.due("an award that is not in force on the day", x.pay(0, 1, 12), 0);
        Check.due("pay as known", x.pay(0, 1, 11), 8);
        WageCourt y = court("award a" + ALWAYS + "class c tasks 1 margin 16;", "agree a firm 0" + ALWAYS + "class c tasks 1 margin"
                + " 18; round 50;");
        Check.row(y, 0, 0, 0, 1);
        Check.due("an agree's round is not asked", y.pay(0, 0, 3), 9);
        WageCourt z = court("award a" + ALWAYS + "class c tasks 1 margin 16; round 5;");
        Check.row(z, 0, 133, 0, 1);
        Check.due("pay of the last week", z.pay(0, 19, 2), 10);
        z.stay(0, 139, 140);
        Check.due("pay of the last week, stayed on the last day", z.pay(0, 19, 3), 8);
        WageCourt odd = court("award a" + ALWAYS + "class c tasks 1 margin 13; round 2;");
        Check.row(odd, 0, 0, 0, 1);
        Check.due("pay of 6.5, round 2", odd.pay(0, 0, 2), 6);
        odd.stay(0, 6, 7);
        Check.due("pay of 6.5, not in force on the last day", odd.pay(0, 0, 3), 7);
    }

    private static void payOfNoSuchOnes() {
        Check.holds("Promise 36", "PAY of a PERSON for a WEEK, as KNOWN by n; NONE: no such ones.");
        WageCourt x = withHalves();
        int[][] wrong = {{-1, 0, 2}, {2, 0, 2}, {LEAST, 0, 2}, {MOST, 0, 2}, {0, -1, 2}, {0, 20, 2}, {0, LEAST, 2},
            {0, MOST, 2}, {0, 0, -1}, {0, 0, 3}, {0, 0, LEAST}, {0, 0, MOST}};
        for (int[] w : wrong) {
            Check.due("pay" + Arrays.toString(w), x.pay(w[0], w[1], w[2]), -1);
        }
        Check.due("pay", x.pay(0, 0, 2), 17);
        Check.due("pay by 1", x.pay(0, 0, 1), 0);
        Check.due("pay by 0", x.pay(0, 0, 0), 0);
        Check.due("pay of the last ones", x.pay(1, 19, 2), 0);
    }
}
