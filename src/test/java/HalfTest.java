/** Promises 28 to 35: a HALF, what binds it, its class, what it is worth. */
final class HalfTest {
    public static void main(String[] args) {
        wrongOnes();
        boundByVars();
        conditions();
        bound();
        over();
        each();
        most();
        mostOfTwoAwards();
        highest();
        nearest();
        rates();
        loads();
        bars();
        extras();
        agreePays();
        lastAgree();
        agreeChooses();
        Check.end();
    }

    /** A town, a firm 0 of trade 2 and a firm 1 of trade 3; person 0 with tickets 0 and 3, person 1 at firm 1. */
    private static WageCourt land() {
        WageCourt x = new WageCourt();
        x.town();
        x.firm(0, 2);
        x.firm(0, 3);
        x.person(0, 9, 7);
        x.person(1, 0, 0);
        return x;
    }

    private static void wrongOnes() {
        WageCourt x = land();
        Check.tell(x, "award a from 0; binds if 0 == 0; class c tasks 1 margin 10; load l 10;");
        Check.row(x, 0, 0, 0, 1, 16, -1, 2);
        int[][] wrong = {{-1, 0, 0, 2}, {2, 0, 0, 2}, {0, -1, 0, 2}, {0, 140, 0, 2}, {0, 0, -1, 2}, {0, 0, 48, 2},
            {0, 0, 0, -1}, {0, 0, 0, 3}};
        for (int[] w : wrong) {
            Check.due("did of wrong ones", x.did(w[0], w[1], w[2], w[3]), -3);
            none(x, "of wrong ones", w[0], w[1], w[2], w[3]);
        }
        none(x, "of a break", 0, 0, 1, 2);
        none(x, "of nothing", 0, 0, 2, 2);
        none(x, "of another day", 0, 1, 0, 2);
        none(x, "as of before", 0, 0, 0, 1);
        Check.due("bound", x.bound(0, 0, 0, 2), 0);
        Check.due("classed", x.classed(0, 0, 0, 2), 1);
        Check.due("payer", x.payer(0, 0, 0, 2), 0);
        Check.due("rate", x.rate(0, 0, 0, 2), 10);
        Check.due("counted", x.counted(0, 0, 0, 0, 2), 2);
        Check.due("counted -1", x.counted(0, 0, 0, -1, 2), -1);
        Check.due("counted 1", x.counted(0, 0, 0, 1, 2), -1);
        Check.due("worth", x.worth(0, 0, 0, 2), 1100);
        Check.due("bound of what is unnamed", x.bound(0, 0, 3, 2), 0);
        Check.due("classed of what is unnamed", x.classed(0, 0, 3, 2), -1);
        Check.due("payer of what is unnamed", x.payer(0, 0, 3, 2), -1);
        Check.due("rate of what is unnamed", x.rate(0, 0, 3, 2), -1);
        Check.due("counted of what is unnamed", x.counted(0, 0, 3, 0, 2), -1);
        Check.due("worth of what is unnamed", x.worth(0, 0, 3, 2), 0);
    }

    private static void none(WageCourt x, String what, int person, int day, int half, int n) {
        Check.due("bound " + what, x.bound(person, day, half, n), -1);
        Check.due("classed " + what, x.classed(person, day, half, n), -1);
        Check.due("nearest " + what, x.nearest(person, day, half, n), -1);
        Check.due("payer " + what, x.payer(person, day, half, n), -1);
        Check.due("rate " + what, x.rate(person, day, half, n), -1);
        Check.due("counted " + what, x.counted(person, day, half, 0, n), -1);
        Check.due("worth " + what, x.worth(person, day, half, n), 0);
    }

    /** The VARS of a HALF, each shown by an extra that is worth it. */
    private static void boundByVars() {
        String[] vars = {"least", "years", "trade", "town", "who", "task", "weekday", "half", "worked", "week", "wet",
            "rate"};
        int[] due = {31, 5, 3, 1, 1, 4, 2, 30, 2, 4, 8, 36};
        for (int i = 0; i < vars.length; i++) {
            WageCourt x = new WageCourt();
            x.town();
            x.town();
            x.firm(0, 2);
            x.firm(1, 3);
            x.person(0, 0, 0);
            x.person(1, 0, 5);
            x.price(1, 0, 0, 30);
            x.price(1, 1, 1, 1);
            x.wet(1, 37, 8);
            x.wet(1, 36, 7);
            x.wet(0, 37, 6);
            Check.tell(x, "award a from 0; binds if rate == 0; class c tasks 4 margin years + task + half;"
                    + "extra e " + vars[i] + "; extra f 100 if " + vars[i] + " == " + due[i] + ";");
            Check.row(x, 1, 34, 0, 4);
            Check.row(x, 1, 35, 40, 4, 16, 4);
            Check.row(x, 1, 36, 0, 16, -1);
            Check.row(x, 1, 38, 0, 4, 4);
            Check.row(x, 0, 37, 0, 4, 4, 4, 4, 4);
            Check.row(x, 1, 37, 20, 4, -1, 16, 5, -1, -1, -1, -1, -1, -1, 4, 4);
            Check.due("extra of " + vars[i], x.worth(1, 37, 30, x.count(3)), 36 * 100 + 200 * (due[i] + 100));
        }
    }

    private static void conditions() {
        String[] holds = {"0 == 0", "not 0 == 1", "not not 0 == 0", "ticket 0", "ticket 3", "not ticket 1", "1 < 2",
            "1 <= 1", "1 != 2", "0 == 1 or 0 == 0", "0 == 0 or 0 == 1 and 0 == 1", "not 0 == 1 and not 0 == 1",
            "not 1 / 0 == 0", "not 1 == 1 / 0", "not 0 < 1 / (1 - 1)", "not 1 / 0 != 7", "0 - 1 < 0",
            "(1 + 2) * 3 == 9", "7 == 3 + 4", "7 == 3 + 2 * 2", "1 - 2 < 3 - 3", "1 != 1 + 1", "1 + 2 * 3 == 7", "2 - 1 <= 4 / 4", "1 / 0 == 0 or 0 == 0"};
        String[] not = {"0 == 1", "not 0 == 0", "ticket 1", "not ticket 0", "not not ticket 1", "2 < 2", "3 <= 2",
            "2 != 2", "0 == 0 and 0 == 1", "(1 / 0) == 0", "1 / 0 == 0", "0 == 0 * (1 / 0)", "1 / 0 != 1 / 0",
            "0 <= 1 / 0", "not 0 == 0 or 0 == 1", "0 == 1 or 0 == 0 and 0 == 1", "not 0 == 0 and not 0 == 1", "1 == 1 + 1",
            "3 < 1 + 2", "not 7 == 3 + 4", "0 == 0 and 7 == 4 + 4"};
        for (String cond : holds) {
            Check.due(cond, binds(cond), 0);
            Check.due("load if " + cond, countsIf(cond), 2);
        }
        for (String cond : not) {
            Check.due(cond, binds(cond), -1);
            Check.due("load if " + cond, countsIf(cond), -1);
        }
    }

    private static int binds(String cond) {
        WageCourt x = land();
        Check.tell(x, "award a from 0; binds if " + cond + ";");
        Check.row(x, 0, 0, 0, 1);
        return x.bound(0, 0, 0, 2);
    }

    private static int countsIf(String cond) {
        WageCourt x = land();
        Check.tell(x, "award a from 0; binds if 0 == 0; class c tasks 1 margin 10; load l 10 if " + cond + ";");
        Check.row(x, 0, 0, 0, 1);
        return x.counted(0, 0, 0, 0, 2);
    }

    private static void bound() {
        WageCourt x = land();
        Check.row(x, 0, 3, 5, 1);
        Check.tell(x, "award a from 3; binds if 0 == 1; binds if half == 5;");
        Check.due("bound by its second cond", x.bound(0, 3, 5, 2), 1);
        Check.due("bound, not known", x.bound(0, 3, 5, 1), -1);
        Check.tell(x, "award b from 4; binds if 0 == 0;");
        Check.due("bound beside what is not in force", x.bound(0, 3, 5, 3), 1);
        Check.tell(x, "award c from 0;");
        Check.due("bound beside what binds nobody", x.bound(0, 3, 5, 4), 1);
        Check.tell(x, "award d from 0; binds if trade == 3;");
        Check.due("bound beside what binds others", x.bound(0, 3, 5, 5), 1);
        x.stay(1, 3, 4);
        Check.due("bound by what is stayed", x.bound(0, 3, 5, 6), -1);
        Check.tell(x, "award e from 0; binds if 0 == 0;");
        Check.tell(x, "award f from 0; binds if 0 == 0; class g tasks 1 margin 100;");
        Check.due("bound by one", x.bound(0, 3, 5, 7), 6);
        Check.due("a quarrel", x.bound(0, 3, 5, 8), -2);
        Check.due("classed in a quarrel", x.classed(0, 3, 5, 8), -1);
        Check.due("worth in a quarrel", x.worth(0, 3, 5, 8), 0);
        Check.due("payer in a quarrel", x.payer(0, 3, 5, 8), -1);
    }

    private static int boundOf(String... texts) {
        WageCourt x = land();
        for (String text : texts) {
            Check.tell(x, text);
        }
        Check.row(x, 0, 0, 0, 1);
        return x.bound(0, 0, 0, x.count(3));
    }

    private static void over() {
        String all = " from 0; binds if 0 == 0;";
        Check.due("over of two", boundOf("award a" + all, "award b" + all + "over a;"), 1);
        Check.due("over of two, told ahead", boundOf("award a" + all + "over b;", "award b" + all), 0);
        Check.due("over one another", boundOf("award a" + all + "over b;", "award b" + all + "over a;"), -2);
        Check.due("over ahead of binds", boundOf("award a" + all, "award b from 0; over a; binds if 0 == 0;"), 1);
        Check.due("over itself", boundOf("award a" + all + "over a;"), 0);
        Check.due("over itself and another", boundOf("award a" + all + "over a; over b;", "award b" + all), 0);
        Check.due("over in a row", boundOf("award a" + all + "over b;", "award b" + all + "over c;", "award c" + all),
                0);
        Check.due("over all round", boundOf("award a" + all + "over b;", "award b" + all + "over c;",
                "award c" + all + "over a;"), -2);
        Check.due("over one of three", boundOf("award a" + all + "over b;", "award b" + all, "award c" + all), -2);
        Check.due("over, of what does not bind", boundOf("award a from 0; over b;", "award b" + all), 1);
        Check.due("over, of what is not in force", boundOf("award a from 1; binds if 0 == 0; over b;",
                "award b" + all), 1);
        Check.due("over in an agree", boundOf("award a" + all, "award b" + all, "agree a firm 0" + all + "over b;"),
                -2);
    }

    private static void each() {
        WageCourt x = land();
        Check.tell(x, "award a from 0; binds if 0 == 0; load l 5; class c tasks 1, 2 margin 10; class d tasks 2, 3"
                + " margin 20;");
        Check.row(x, 0, 0, 0, 1, 2, 3, 4);
        int[] due = {2, 2, 3, -1};
        for (int half = 0; half < 4; half++) {
            Check.due("classed of half " + half, x.classed(0, 0, half, 2), due[half]);
        }
        Check.due("worth with a load ahead of all", x.worth(0, 0, 0, 2), 1050);
        Check.tell(x, "vary a from 0; class c tasks 4 margin 1; choose highest; choose each;");
        int[] then = {-1, 3, 3, 2};
        for (int half = 0; half < 4; half++) {
            Check.due("classed of half " + half, x.classed(0, 0, half, 3), then[half]);
        }
    }

    private static void most() {
        WageCourt x = land();
        Check.tell(x, "award a from 0; binds if half < 40; choose most; class c tasks 1 margin 10; class d tasks 2"
                + " margin 20; class e tasks 3 margin 20;");
        Check.row(x, 0, 0, 0, 1, 2, 1, 9, 16, 3);
        Check.due("classed by most", x.classed(0, 0, 1, 2), 1);
        Check.due("classed by most", x.classed(0, 0, 5, 2), 1);
        Check.due("classed of what has none by each", x.classed(0, 0, 3, 2), -1);
        Check.row(x, 0, 1, 0, 1, 2, 9, 9, 9);
        Check.due("classed by the greater margin", x.classed(0, 1, 0, 3), 2);
        Check.row(x, 0, 2, 0, 3, 1, 2);
        Check.due("classed by the first", x.classed(0, 2, 1, 4), 2);
        Check.row(x, 0, 3, 37, 1, 3, 3, 1, 1, 1);
        Check.due("classed by what this award binds", x.classed(0, 3, 37, 5), 3);
        Check.row(x, 1, 0, 0, 3, 3, 3, 3);
        Check.due("classed by this person's halves", x.classed(0, 0, 1, 6), 1);
        Check.tell(x, "order a firm 0 from 0; choose each;");
        Check.due("classed by each after an order", x.classed(0, 0, 1, 7), 2);
        Check.due("classed at another firm", x.classed(1, 0, 1, 7), 3);
    }

    private static void mostOfTwoAwards() {
        WageCourt x = land();
        Check.tell(x, "award a from 0; binds if half < 5; choose most; class c tasks 1 margin 1; class d tasks 2 margin"
                + " 2;");
        Check.tell(x, "award b from 0; binds if 5 <= half; choose most; class e tasks 1 margin years; class f tasks 2"
                + " margin 7; class g tasks 3 margin 7;");
        Check.row(x, 0, 0, 0, 1, 1, 2, 2, 2, 2, 1, 3);
        Check.due("classed by the first award", x.classed(0, 0, 0, 3), 2);
        Check.due("classed by the second award", x.classed(0, 0, 7, 3), 4);
        Check.due("bound by the second award", x.bound(0, 0, 5, 3), 1);
    }

    private static void highest() {
        WageCourt x = land();
        Check.tell(x, "award a from 0; binds if 0 == 0; choose highest; class c tasks 1 margin 10; class d tasks 2"
                + " margin years * 3; class e tasks 3 margin 21; class f tasks 4 margin 99; class g tasks 5 margin 9999;"
                + "class h tasks 6 margin 9999 + 9; class k tasks 7 margin 0 - 9999 - 1; class l tasks 8 margin 0 - 9999;");
        Check.row(x, 0, 0, 0, 1, 2, 3, 9);
        Check.due("classed by highest, the first", x.classed(0, 0, 0, 2), 2);
        Check.due("classed by highest", x.classed(0, 0, 2, 2), 2);
        Check.due("classed of what has none by each", x.classed(0, 0, 3, 2), -1);
        Check.row(x, 0, 1, 0, 1, 1, 1, 4);
        Check.due("classed by highest, of fewer halves", x.classed(0, 1, 0, 3), 4);
        Check.row(x, 1, 0, 0, 1, 2);
        Check.due("classed by highest, without years", x.classed(1, 0, 1, 4), 1);
        Check.row(x, 0, 2, 0, 6, 5);
        Check.due("classed by margins that are held", x.classed(0, 2, 0, 5), 5);
        Check.row(x, 0, 3, 0, 8, 7);
        Check.due("classed by margins that are held", x.classed(0, 3, 0, 6), 7);
    }

    private static void nearest() {
        WageCourt x = land();
        Check.tell(x, "award a from 0; binds if 0 == 0; class c tasks 1, 2 margin 10; class d tasks 3 margin 20; load l"
                + " 1;");
        Check.row(x, 0, 0, 0, 9, 1);
        Check.due("nearest without marks", x.nearest(0, 0, 0, 2), -1);
        x.marks(9, 0b0111);
        Check.due("nearest with marks of its own", x.nearest(0, 0, 0, 2), -1);
        x.marks(3, 0b0001);
        Check.due("nearest with one in common", x.nearest(0, 0, 0, 2), 2);
        x.marks(1, 0b1010);
        Check.due("nearest of alike ones", x.nearest(0, 0, 0, 2), 1);
        x.marks(3, 0b0011);
        Check.due("nearest with the most", x.nearest(0, 0, 0, 2), 2);
        x.marks(2, 0b0111);
        Check.due("nearest with the most", x.nearest(0, 0, 0, 2), 1);
        x.marks(4, 0xff);
        Check.due("nearest beside a task of no class", x.nearest(0, 0, 0, 2), 1);
        Check.due("nearest of what is named", x.nearest(0, 0, 1, 2), -1);
        Check.tell(x, "vary a from 0; strike c;");
        Check.due("nearest as it is", x.nearest(0, 0, 0, 3), 2);
        Check.due("nearest as known", x.nearest(0, 0, 0, 2), 1);
        Check.due("nearest of what is unnamed now", x.nearest(0, 0, 1, 3), 2);
        Check.tell(x, "award b from 0; binds if 0 == 0;");
        Check.due("nearest in a quarrel", x.nearest(0, 0, 0, 4), -1);
        x = land();
        Check.tell(x, "award a from 0; binds if 0 == 0; load l 1; class c tasks 15 margin 10; class d tasks 0 margin 1;");
        Check.row(x, 0, 0, 0, 9);
        x.marks(9, 3);
        x.marks(15, 1);
        x.marks(0, 3);
        Check.due("nearest by task 0", x.nearest(0, 0, 0, 2), 3);
    }

    private static void rates() {
        WageCourt x = land();
        x.price(0, 0, 0, 10);
        Check.tell(x, "award a from 0; binds if 0 == 0; class c tasks 1 margin years; class d tasks 2 margin 0 - 9;"
                + "class e tasks 3 margin 0 - 10; class f tasks 4 margin 0 - 11; extra x 2 if task == 4;");
        Check.row(x, 0, 0, 0, 1, 2, 3, 4);
        int[] rate = {17, 1, -1, 0};
        int[] worth = {1700, 100, 0, 400};
        int[] payer = {1, 1, -1, 1};
        for (int half = 0; half < 4; half++) {
            Check.due("rate of half " + half, x.rate(0, 0, half, 3), rate[half]);
            Check.due("worth of half " + half, x.worth(0, 0, half, 3), worth[half]);
            Check.due("payer of half " + half, x.payer(0, 0, half, 3), payer[half]);
            Check.due("classed of half " + half, x.classed(0, 0, half, 3), 1 + half);
        }
        x.weight(0, 3);
        Check.due("rate with another weight", x.rate(0, 0, 0, 3), 37);
    }

    private static int worthWith(String items) {
        WageCourt x = land();
        Check.tell(x, "award a from 0; binds if 0 == 0; class c tasks 1 margin 10;" + items);
        Check.row(x, 0, 0, 0, 1);
        return x.worth(0, 0, 0, 2);
    }

    private static void loads() {
        Check.due("no load", worthWith(""), 1000);
        Check.due("a load", worthWith("load l 50;"), 1500);
        Check.due("two loads", worthWith("load l 50; load m 0 - 20;"), 1300);
        Check.due("a load above 400", worthWith("load l 401;"), 5000);
        Check.due("a load below -100", worthWith("load l 0 - 101; load m 30;"), 300);
        Check.due("loads below 0", worthWith("load l 0 - 60; load m 0 - 60;"), 0);
        Check.due("loads below 0 and an extra", worthWith("load l 0 - 60; load m 0 - 60; extra e 1;"), 200);
        Check.due("loads up to 1000", worthWith("load l 400; load m 400; load n 100;"), 10000);
        Check.due("loads above 1000", worthWith("load l 400; load m 400; load n 101;"), 10000);
        Check.due("a load by 0", worthWith("load l 50 + 1 / 0; load m 3;"), 1030);
        Check.due("a load by rate", worthWith("load l rate;"), 1100);
        Check.due("a load of the award's name", worthWith("load a 7;"), 1070);
        Check.due("a load that is told twice", worthWith("load l 50; load l 20;"), 1200);
        Check.due("loads that wrap", worthWith("load l 9999 * 9999 * 30;"), 1000 + 10 * Math.max(-100,
                Math.min(400, 9999 * 9999 * 30)));
    }

    private static void bars() {
        Check.due("a bar behind it", worthWith("load l 50; load m 20 bars l;"), 1700);
        Check.due("a bar ahead of it", worthWith("load m 20 bars l; load l 50;"), 1200);
        Check.due("a bar of what does not count", worthWith("load m 20 if 0 == 1 bars l; load l 50;"), 1500);
        Check.due("a bar that is barred", worthWith("load k 1 bars m; load m 20 bars l; load l 50;"), 1510);
        Check.due("a bar of an extra", worthWith("load m 20 bars e bars l; extra e 5; load l 50;"), 1200);
        Check.due("a bar by an extra", worthWith("extra e 5 bars x bars l; load l 50; load m 1;"), 2010);
        Check.due("a bar of itself", worthWith("load l 50 bars l; load m 1;"), 1510);
        WageCourt x = land();
        Check.tell(x, "award a from 0; binds if 0 == 0; class c tasks 1 margin 10; extra e 1; load k 1 if task == 2;"
                + "load l 1 bars n; load m 0; load n 1; extra o 0;");
        Check.row(x, 0, 0, 0, 1);
        String[] due = {"e", "l", "m", "o"};
        for (int k = 0; k < due.length; k++) {
            Check.due("counted " + k, x.counted(0, 0, 0, k, 2), Check.named(x, due[k]));
        }
        Check.due("counted behind all", x.counted(0, 0, 0, due.length, 2), -1);
    }

    private static void extras() {
        Check.due("an extra", worthWith("extra e 5;"), 2000);
        Check.due("an extra above 999", worthWith("extra e 1000;"), 200800);
        Check.due("an extra below 0", worthWith("extra e 0 - 5; extra f 2;"), 1400);
        StringBuilder many = new StringBuilder();
        for (int i = 0; i < 10; i++) {
            many.append("extra e").append((char) ('a' + i)).append(" 999;");
        }
        Check.due("extras of 9990", worthWith(many.toString()), 1000 + 200 * 9990);
        Check.due("extras of 9999", worthWith(many + "extra f 9;"), 1000 + 200 * 9999);
        Check.due("extras above 9999", worthWith(many + "extra f 10;"), 1000 + 200 * 9999);
        Check.due("an extra beside a load", worthWith("extra e 5; load l 100;"), 3000);
    }

    private static void agreePays() {
        WageCourt x = land();
        Check.tell(x, "award a from 0; binds if 0 == 0; class c tasks 1, 2, 3 margin 10; load l 10;");
        Check.tell(x, "agree a firm 0 from 2; binds if half < 40; class d tasks 1 margin 11; class e tasks 2 margin 12;"
                + "class f tasks 4 margin 3; load m rate;");
        Check.row(x, 0, 1, 0, 1);
        Check.row(x, 0, 2, 36, 1, 2, 3, 4, 2, 4);
        Check.row(x, 1, 2, 0, 2);
        int n = x.count(3);
        Check.due("payer ahead of the agree", x.payer(0, 1, 0, n), 0);
        Check.due("payer at another firm", x.payer(1, 2, 0, n), 0);
        int[] payer = {1, 1, 0, 1, 0, -1};
        int[] rate = {11, 12, 10, 3, 10, -1};
        int[] worth = {1221, 1344, 1100, 309, 1100, 0};
        int[] counted = {6, 6, 2, 6, 2, -1};
        int[] classed = {1, 1, 1, -1, 1, -1};
        for (int i = 0; i < 6; i++) {
            Check.due("payer " + i, x.payer(0, 2, 36 + i, n), payer[i]);
            Check.due("rate " + i, x.rate(0, 2, 36 + i, n), rate[i]);
            Check.due("worth " + i, x.worth(0, 2, 36 + i, n), worth[i]);
            Check.due("counted " + i, x.counted(0, 2, 36 + i, 0, n), counted[i]);
            Check.due("counted behind " + i, x.counted(0, 2, 36 + i, 1, n), -1);
            Check.due("classed " + i, x.classed(0, 2, 36 + i, n), classed[i]);
            Check.due("bound " + i, x.bound(0, 2, 36 + i, n), 0);
        }
        x.stay(1, 2, 3);
        Check.due("payer while the agree is stayed", x.payer(0, 2, 36, n + 1), 0);
    }

    private static void lastAgree() {
        WageCourt x = land();
        Check.tell(x, "award a from 0; binds if 0 == 0; class c tasks 1 margin 10;");
        Check.tell(x, "award b from 0;");
        Check.row(x, 0, 9, 0, 1);
        Check.tell(x, "agree a firm 0 from 5; binds if 0 == 0; class c tasks 1 margin 50;");
        Check.due("payer by one agree", x.payer(0, 9, 0, 4), 3);
        Check.tell(x, "agree a firm 0 from 3; binds if 0 == 0; class c tasks 1 margin 90;");
        Check.due("payer by the later day", x.rate(0, 9, 0, 5), 50);
        Check.tell(x, "agree a firm 0 from 5; binds if 0 == 0; class c tasks 1 margin 20;");
        Check.due("payer by the later fact, though it gives less", x.rate(0, 9, 0, 6), 20);
        Check.tell(x, "agree a firm 0 from 9; binds if 0 == 1; class c tasks 1 margin 70;");
        Check.due("payer beside what binds nobody", x.rate(0, 9, 0, 7), 20);
        Check.tell(x, "agree a firm 0 from 9; class c tasks 1 margin 70;");
        Check.due("payer beside what has no binds", x.rate(0, 9, 0, 8), 20);
        Check.tell(x, "agree b firm 0 from 9; binds if 0 == 0; class c tasks 1 margin 70;");
        Check.due("payer beside another award's", x.rate(0, 9, 0, 9), 20);
        Check.tell(x, "agree a firm 1 from 9; binds if 0 == 0; class c tasks 1 margin 70;");
        Check.due("payer beside another firm's", x.rate(0, 9, 0, 10), 20);
        Check.tell(x, "agree a firm 0 from 8; binds if 0 == 0; class c tasks 1 margin 10;");
        Check.due("payer of alike ones", x.payer(0, 9, 0, 11), 0);
        Check.tell(x, "agree a firm 0 from 8; binds if 0 == 0; class c tasks 1 margin 4;");
        Check.due("payer of what gives less", x.payer(0, 9, 0, 12), 0);
        Check.due("rate by the award", x.rate(0, 9, 0, 12), 10);
        x = land();
        Check.tell(x, "award a from 5; binds if 0 == 0; class c tasks 1 margin 10;");
        Check.tell(x, "agree a firm 0 from 0; binds if 0 == 0; class c tasks 1 margin 50;");
        Check.row(x, 0, 5, 0, 1);
        Check.row(x, 0, 4, 0, 1);
        Check.due("payer by an agree from an earlier day", x.payer(0, 5, 0, 4), 1);
        Check.due("payer ahead of the award", x.payer(0, 4, 0, 4), -1);
    }

    private static void agreeChooses() {
        WageCourt x = land();
        Check.tell(x, "award a from 0; binds if half < 40; choose highest; class c tasks 1, 2, 3, 9 margin 1;");
        Check.tell(x, "agree a firm 0 from 0; binds if 2 <= half; choose most; class d tasks 1 margin 10; class e tasks"
                + " 2 margin 20; class f tasks 3 margin 5;");
        Check.row(x, 0, 0, 0, 2, 2, 1, 1, 2, 3, 9);
        int n = x.count(3);
        int[] rate = {1, 1, 10, 10, 10, 10, 1};
        for (int half = 0; half < rate.length; half++) {
            Check.due("rate of half " + half, x.rate(0, 0, half, n), rate[half]);
        }
        Check.row(x, 0, 1, 38, 1, 2, 2, 2, 2);
        Check.due("rate by what the award binds", x.rate(0, 1, 38, n + 1), 20);
        Check.row(x, 0, 2, 36, 1, 1, 1, 2, 2, 2, 2, 2);
        Check.due("rate by what the award binds", x.rate(0, 2, 39, n + 2), 10);
        Check.tell(x, "vary a from 0; choose each;");
        Check.due("rate by the agree's own choose", x.rate(0, 0, 4, n + 3), 10);
    }
}
