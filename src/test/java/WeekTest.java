/** Promises 36 to 40 and 45: PAY of a WEEK, its HALVES, what is owed, TRY, and what turned. */
final class WeekTest {
    public static void main(String[] args) {
        wrongOnes();
        pay();
        rounding();
        roundOfTheLastDay();
        severalAwards();
        agreePay();
        halves();
        owed();
        shorted();
        tried();
        triedTies();
        triedChoice();
        turned();
        tenPeople();
        Check.end();
    }

    /** A town, two firms in it, two people at firm 0, one at firm 1. */
    private static WageCourt land() {
        WageCourt x = new WageCourt();
        x.town();
        x.firm(0, 2);
        x.firm(0, 3);
        x.person(0, 0, 4);
        x.person(0, 0, 0);
        x.person(1, 0, 0);
        return x;
    }

    private static void wrongOnes() {
        WageCourt x = land();
        x.wet(0, 0, 0);
        int[][] wrong = {{-1, 0, 1}, {3, 0, 1}, {0, -1, 1}, {0, 20, 1}, {0, 0, -1}, {0, 0, 2}};
        x.paid(0, 0, 5);
        wrong[5][2] = 3;
        for (int[] w : wrong) {
            Check.due("pay of wrong ones", x.pay(w[0], w[1], w[2]), -1);
            Check.due("halves of wrong ones", x.halves(w[0], w[1], w[2], 0), -1);
            Check.due("owed of wrong ones", x.owed(w[0], w[1], w[2]), 0);
            Check.due("shorted of wrong ones", x.shorted(w[0], w[1], 19, false, w[2]), -1);
            Check.due("shorted of wrong ones", x.shorted(w[0], w[1], 19, true, w[2]), -1);
        }
        Check.due("halves, what -1", x.halves(0, 0, 1, -1), -1);
        Check.due("halves, what 5", x.halves(0, 0, 1, 5), -1);
        Check.due("shorted up to 20", x.shorted(0, 0, 20, false, 1), -1);
        Check.due("shorted up to -1", x.shorted(0, 0, -1, false, 1), -1);
        Check.due("shorted backwards", x.shorted(0, 2, 1, true, 1), -1);
        Check.due("turned by -1", x.turned(-1, 0), -1);
        Check.due("turned by 3", x.turned(0, 3), -1);
    }

    private static void pay() {
        WageCourt x = land();
        Check.tell(x, "award a from 0; binds if 0 == 0; class c tasks 1 margin 10;");
        Check.row(x, 0, 6, 0, 1, 1, 2);
        Check.row(x, 0, 7, 0, 1);
        Check.row(x, 0, 13, 47, 1);
        Check.row(x, 1, 7, 0, 1, 1, 1);
        Check.row(x, 0, 14, 0, 1, 1, 1, 1);
        Check.row(x, 0, 139, 0, 1, 1, 1, 1);
        int[] due = {10, 10, 20, 0};
        for (int week = 0; week < 4; week++) {
            Check.due("pay of week " + week, x.pay(0, week, 7), due[week]);
        }
        Check.due("pay of the last week", x.pay(0, 19, 7), 20);
        Check.due("pay of another person", x.pay(1, 1, 7), 15);
        Check.due("pay of who has no rows", x.pay(2, 1, 7), 0);
        Check.due("pay by 0", x.pay(0, 0, 0), 0);
        Check.due("pay by 3", x.pay(0, 1, 3), 5);
        x.row(0, 6, -1);
        Check.due("pay of a missing row", x.pay(0, 0, 8), 0);
        Check.due("pay as of before", x.pay(0, 0, 7), 10);
    }

    /** So many HALVES at 50 parts of 100 of a penny each, in steps of so many pence. */
    private static int roundedPay(int halves, int step) {
        WageCourt x = land();
        Check.tell(x, "award a from 0; binds if 0 == 0; class c tasks 1 margin 1; round " + step + ";");
        int[] cells = new int[halves];
        java.util.Arrays.fill(cells, 1);
        Check.row(x, 0, 0, 0, cells);
        return x.pay(0, 0, 2);
    }

    private static void rounding() {
        int[][] due = {{1, 1, 1}, {2, 1, 1}, {3, 1, 2}, {4, 1, 2}, {4, 5, 0}, {5, 5, 5}, {6, 5, 5}, {14, 5, 5},
            {15, 5, 10}, {10, 12, 0}, {12, 12, 12}, {11, 12, 0}, {1, 240, 0}, {47, 240, 0}, {36, 12, 24}, {35, 12, 12}};
        for (int[] d : due) {
            Check.due("pay of " + d[0] + " halves, round " + d[1], roundedPay(d[0], d[1]), d[2]);
        }
        WageCourt x = land();
        Check.tell(x, "award a from 0; binds if 0 == 0; class c tasks 1 margin 0; load l 1; extra e 0;"
                + "class d tasks 2 margin 1; round 1;");
        Check.row(x, 0, 0, 0, 2);
        Check.due("worth of 101 parts of 200", x.worth(0, 0, 0, 2), 101);
        Check.due("pay of 101 parts of 200", x.pay(0, 0, 2), 1);
        Check.tell(x, "vary a from 0; load l 0 - 1;");
        Check.due("pay of 99 parts of 200", x.pay(0, 0, 3), 0);
    }

    private static void roundOfTheLastDay() {
        WageCourt x = land();
        Check.tell(x, "award a from 0; binds if 0 == 0; class c tasks 1 margin 8; round 5;");
        Check.row(x, 0, 7, 0, 1);
        Check.row(x, 0, 13, 0, 1);
        Check.due("pay", x.pay(0, 1, 3), 10);
        Check.tell(x, "vary a from 13; round 3;");
        Check.due("pay by the round of the last day", x.pay(0, 1, 4), 9);
        Check.tell(x, "vary a from 14; round 100;");
        Check.due("pay by the round of the last day", x.pay(0, 1, 5), 9);
        Check.tell(x, "order a firm 1 from 13; round 100;");
        Check.due("pay by another firm's round", x.pay(0, 1, 6), 9);
        x.stay(0, 13, 14);
        Check.due("pay by an award that is not in force then", x.pay(0, 1, 7), 4);
    }

    private static void severalAwards() {
        WageCourt x = land();
        Check.tell(x, "award a from 0; binds if half < 10; class c tasks 1 margin 3; round 2;");
        Check.tell(x, "award b from 0; binds if 10 <= half; class c tasks 1 margin 5;");
        Check.row(x, 0, 0, 8, 1, 1, 1);
        Check.row(x, 0, 1, 10, 1);
        Check.due("pay of both", x.pay(0, 0, 4), 4 + 5);
        Check.row(x, 0, 2, 9, 1, 1);
        Check.due("pay of both", x.pay(0, 0, 5), 4 + 8);
        Check.tell(x, "award d from 2; binds if 10 <= half; class c tasks 1 margin 50;");
        Check.due("pay with a quarrel", x.pay(0, 0, 6), 4 + 5);
    }

    private static void agreePay() {
        WageCourt x = land();
        Check.tell(x, "award a from 0; binds if 0 == 0; class c tasks 1 margin 10; round 4;");
        Check.tell(x, "agree a firm 0 from 0; binds if 0 == 0; class d tasks 1, 2 margin 11; round 100;");
        Check.row(x, 0, 0, 0, 1, 2, 2, 3);
        Check.due("pay by the agree, rounded by the award", x.pay(0, 0, 3), 16);
        Check.due("halves unnamed and not paid", x.halves(0, 0, 3, 4), 1);
        x.stay(1, 0, 1);
        Check.due("pay while the agree is stayed", x.pay(0, 0, 4), 4);
        Check.due("halves unnamed while the agree is stayed", x.halves(0, 0, 4, 4), 3);
    }

    private static void halves() {
        WageCourt x = land();
        Check.tell(x, "award a from 0; binds if half < 10 and weekday != 5; class c tasks 1 margin 10; class d tasks 2"
                + " margin 0;");
        Check.tell(x, "award b from 3; binds if half == 9; class c tasks 1 margin 10;");
        Check.tell(x, "agree a firm 0 from 0; binds if 0 == 0; class e tasks 5 margin 10; class f tasks 6 margin 0;");
        Check.row(x, 0, 0, 0, 1, 16, -1, 2, 4, 5, 6);
        x.row(0, 1, 10);
        x.cell(9, 1);
        x.row(0, 2, -1);
        Check.row(x, 0, 3, 8, 1, 1, 1, 3);
        Check.row(x, 0, 5, 8, 1, 1);
        int n = x.count(3);
        int[] due = {12, 38 + 48, 3, 1, 2};
        for (int what = 0; what < 5; what++) {
            Check.due("halves, what " + what, x.halves(0, 0, n, what), due[what]);
        }
        Check.due("bound on day 5", x.bound(0, 5, 9, n), 1);
        Check.due("halves of a week without rows", x.halves(0, 1, n, 1), 0);
        Check.due("halves of another person", x.halves(1, 0, n, 0), 0);
        Check.due("halves as known", x.halves(0, 0, 4, 0), 5);
        Check.due("unnamed as known", x.halves(0, 0, 4, 4), 2);
        Check.due("unnamed, with the agree unknown", x.halves(0, 0, 2, 4), 0);
    }

    private static void owed() {
        WageCourt x = land();
        Check.tell(x, "award a from 0; binds if 0 == 0; class c tasks 1 margin 200;");
        Check.row(x, 0, 0, 0, 1);
        x.paid(0, 0, 30);
        x.paid(0, 0, 90);
        x.paid(1, 0, 5);
        x.paid(0, 1, 7);
        x.paid(0, 0, -10);
        int[] due = {0, 0, 100, 70, -20, -20, -20, -10};
        for (int n = 0; n <= 7; n++) {
            Check.due("owed by " + n, x.owed(0, 0, n), due[n]);
        }
        Check.due("owed to another", x.owed(1, 0, 7), -5);
        Check.due("owed for another week", x.owed(0, 1, 7), -7);
    }

    private static void shorted() {
        WageCourt x = land();
        Check.tell(x, "award a from 0; binds if 0 == 0; class c tasks 1 margin 200;");
        for (int week = 0; week < 4; week++) {
            Check.row(x, 0, week * 7, 0, 1);
        }
        x.paid(0, 0, 60);
        x.paid(0, 1, 170);
        x.paid(0, 3, 250);
        int n = x.count(3);
        Check.due("short of one week", x.shorted(0, 0, 0, false, n), 40);
        Check.due("short of two weeks", x.shorted(0, 0, 1, false, n), 40);
        Check.due("short of two weeks with set off", x.shorted(0, 0, 1, true, n), 0);
        Check.due("short of three weeks", x.shorted(0, 0, 2, false, n), 140);
        Check.due("short of three weeks with set off", x.shorted(0, 0, 2, true, n), 70);
        Check.due("short of all weeks", x.shorted(0, 0, 19, false, n), 140);
        Check.due("short of all weeks with set off", x.shorted(0, 0, 19, true, n), 0);
        Check.due("short of a week paid too much", x.shorted(0, 1, 1, false, n), 0);
        Check.due("short as known", x.shorted(0, 0, 3, false, 5), 400);
        Check.due("short of another", x.shorted(1, 0, 19, false, n), 0);
    }

    private static void tried() {
        WageCourt x = land();
        Check.tell(x, "award a from 0; binds if 0 == 0; class c tasks 1 margin 10; class d tasks 2 margin 20;");
        Check.tell(x, "vary a from 7; strike c;");
        Check.row(x, 0, 0, 0, 1, 1, 2);
        Check.row(x, 1, 1, 0, 1);
        Check.row(x, 2, 2, 0, 1);
        Check.row(x, 0, 7, 0, 1, 2);
        int n = x.count(3);
        Check.due("tried at firm 0", x.tried(0, 0, 1, 30, 0, 0, n), 40 + 15);
        Check.due("tried at firm 1", x.tried(1, 0, 1, 30, 0, 0, n), 15);
        Check.due("tried at all", x.tried(-1, 0, 1, 30, 0, 0, n), 70);
        Check.due("tried in two weeks", x.tried(-1, 0, 1, 30, 0, 1, n), 80);
        Check.due("tried where it is not there", x.tried(-1, 0, 1, 30, 1, 1, n), 10);
        Check.due("tried of another name", x.tried(-1, 0, 0, 30, 0, 0, n), 30);
        Check.due("tried below 0", x.tried(-1, 0, 1, -9999, 0, 0, n), 10);
        Check.due("tried of 9999", x.tried(1, 0, 1, 9999, 0, 0, n), 5000);
        Check.due("tried of d", x.tried(-1, 0, 2, 0, 0, 19, n), 20);
        Check.due("tried as known", x.tried(-1, 0, 1, 30, 0, 0, 3), 40);
        Check.due("nothing changes", x.pay(0, 0, n), 20);
        int[][] wrong = {{2, 0, 1, 0, 0, 0, n}, {-2, 0, 1, 0, 0, 0, n}, {0, 1, 1, 0, 0, 0, n}, {0, 2, 1, 0, 0, 0, n},
            {0, -1, 1, 0, 0, 0, n}, {0, 0, -1, 0, 0, 0, n}, {0, 0, 3, 0, 0, 0, n}, {0, 0, 1, -10000, 0, 0, n},
            {0, 0, 1, 10000, 0, 0, n}, {0, 0, 1, 0, -1, 0, n}, {0, 0, 1, 0, 0, 20, n}, {0, 0, 1, 0, 1, 0, n},
            {0, 0, 1, 0, 0, 0, n + 1}, {0, 0, 1, 0, 0, 0, -1}, {0, 0, 1, 0, 0, 0, 0}, {0, n, 1, 0, 0, 0, n}};
        for (int[] w : wrong) {
            Check.due("tried of wrong ones", x.tried(w[0], w[1], w[2], w[3], w[4], w[5], w[6]), -1);
        }
        Check.due("tried of nobody", land().tried(-1, 0, 0, 0, 0, 0, 0), -1);
    }

    private static void triedTies() {
        WageCourt x = land();
        Check.tell(x, "award a from 0; binds if half < 5; class c tasks 1 margin 10; class d tasks 2 follows a c plus 2;"
                + "class f tasks 5 follows a g plus 1; class g tasks 6 follows a f plus 2;");
        Check.tell(x, "award b from 0; binds if 5 <= half; class c tasks 1 margin 40; class e tasks 2 follows a d plus"
                + " 6;");
        Check.tell(x, "agree b firm 0 from 0; binds if 0 == 0; class c tasks 3 follows a c plus 100;");
        x.log(0, 2, 0);
        x.answer(0, 2, 100);
        Check.row(x, 0, 0, 0, 1, 2);
        Check.row(x, 0, 1, 5, 1, 2, 3);
        int n = x.count(3);
        Check.due("pay", x.pay(0, 0, n), (10 + 12) / 2 + (40 + 18 + 110) / 2);
        Check.due("tried with ties", x.tried(0, 0, 2, 50, 0, 0, n), (10 + 50) / 2 + (40 + 56 + 110) / 2);
        int c = Check.named(x, "c");
        Check.due("tried with ties of c", x.tried(0, 0, c, 20, 0, 0, n), (20 + 22) / 2 + (40 + 28 + 120) / 2);
        Check.due("tried of the other c", x.tried(0, 1, c, 20, 0, 0, n), (10 + 12) / 2 + (20 + 18 + 110) / 2);
        Check.tell(x, "vary a from 0; margin d is 30;");
        Check.due("pay with another margin", x.pay(0, 0, n + 1), (10 + 30) / 2 + (40 + 36 + 110) / 2);
        Check.due("tried whatever is told", x.tried(0, 0, Check.named(x, "d"), 12, 0, 0, n + 1),
                (10 + 12) / 2 + (40 + 18 + 110) / 2);
        Check.row(x, 0, 7, 0, 5, 6);
        Check.due("pay of those that follow one another", x.pay(0, 1, n + 2), 3);
        Check.due("tried of one of them", x.tried(0, 0, Check.named(x, "f"), 8, 1, 1, n + 2), (8 + 10) / 2);
    }

    private static void triedChoice() {
        WageCourt x = land();
        Check.tell(x, "award a from 0; binds if 0 == 0; choose highest; class c tasks 1 margin 10; class d tasks 2 margin"
                + " 20;");
        Check.row(x, 0, 0, 0, 1, 2);
        Check.due("pay by the highest", x.pay(0, 0, 2), 20);
        Check.due("tried with another highest", x.tried(0, 0, 1, 30, 0, 0, 2), 30);
        Check.due("tried with another highest", x.tried(0, 0, 2, 4, 0, 0, 2), 10);
    }

    private static void tenPeople() {
        WageCourt x = new WageCourt();
        x.town();
        for (int i = 0; i < 8; i++) {
            x.firm(0, 0);
        }
        for (int i = 0; i < 10; i++) {
            x.person(7, 0, 0);
        }
        Check.tell(x, "award a from 0; binds if 0 == 0; class c tasks 1 margin 10;");
        Check.row(x, 9, 139, 0, 1);
        Check.due("turned of the tenth person", x.turned(1, 2), 199);
        Check.due("turned of none", x.turned(2, 2), -1);
        Check.due("tried of ten people", x.tried(7, 0, 1, 30, 0, 19, 2), 15);
        Check.due("tried of another firm", x.tried(6, 0, 1, 30, 0, 19, 2), 0);
    }

    private static void turned() {
        WageCourt x = land();
        Check.tell(x, "award a from 0; binds if 0 == 0; class c tasks 1 margin 10;");
        Check.row(x, 1, 14, 0, 1);
        Check.row(x, 2, 139, 0, 1);
        x.wet(0, 0, 0);
        Check.due("turned of what is the same", x.turned(4, 4), -1);
        Check.due("turned of no other pay", x.turned(3, 4), -1);
        Check.due("turned by a row", x.turned(0, 4), 22);
        Check.due("turned by a row, the other way", x.turned(4, 0), 22);
        Check.due("turned by the second row", x.turned(2, 3), 59);
        Check.tell(x, "vary a from 0; class c tasks 1 margin 11;");
        Check.due("turned by a vary", x.turned(4, 5), 22);
        Check.row(x, 0, 0, 0, 2);
        Check.due("turned by an unnamed row", x.turned(5, 6), -1);
        x.cell(5, 1);
        Check.due("turned by a cell", x.turned(5, 6), 0);
        x.row(0, 0, -1);
        Check.due("turned by a missing row", x.turned(6, 7), 0);
        Check.due("turned by both", x.turned(5, 7), -1);
        Check.due("turned by -1", x.turned(-1, 7), -1);
        Check.due("turned by 8", x.turned(7, 8), -1);
    }
}
