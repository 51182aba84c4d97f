/** Promises 12 to 23: what is told, and what is known of it when. */
final class FactTest {
    public static void main(String[] args) {
        prices();
        leasts();
        wets();
        rows();
        cells();
        claims();
        payments();
        stays();
        kinds();
        awards();
        fullLedger();
        Check.end();
    }

    /** Two towns, two firms, two people. */
    private static WageCourt land() {
        WageCourt x = new WageCourt();
        x.town();
        x.town();
        x.firm(0, 0);
        x.firm(1, 1);
        x.person(0, 0, 0);
        x.person(1, 0, 0);
        return x;
    }

    private static void prices() {
        WageCourt x = land();
        int[][] wrong = {{-1, 0, 0, 0}, {2, 0, 0, 0}, {0, -1, 0, 0}, {0, 4, 0, 0}, {0, 0, -1, 0}, {0, 0, 4, 0},
            {0, 0, 0, -1}, {0, 0, 0, 100}};
        for (int[] w : wrong) {
            Check.due("wrong price", x.price(w[0], w[1], w[2], w[3]), -1);
        }
        Check.due("facts", x.count(3), 0);
        Check.due("price", x.price(0, 1, 2, 99), 0);
        Check.due("price", x.price(0, 3, 2, 7), 1);
        Check.due("price of another town", x.price(1, 0, 2, 50), 2);
        Check.due("price of another good", x.price(0, 0, 1, 60), 3);
        Check.due("price again", x.price(0, 1, 2, 8), 4);
        Check.due("price of 0", x.price(0, 2, 2, 0), 5);
        int[] known = {0, 1, 2, 4, 5, 6};
        int[][] due = {{0, 0, 0, 0}, {0, 99, 99, 99}, {0, 99, 99, 7}, {0, 99, 99, 7}, {0, 8, 8, 7}, {0, 8, 0, 7}};
        for (int i = 0; i < known.length; i++) {
            for (int quarter = 0; quarter < 4; quarter++) {
                Check.due("price in quarter " + quarter + " by " + known[i], x.priced(0, quarter, 2, known[i]),
                        due[i][quarter]);
            }
        }
        Check.due("price in the other town", x.priced(1, 3, 2, 6), 50);
        Check.due("price of town -1", x.priced(-1, 0, 0, 6), -1);
        Check.due("price of town 2", x.priced(2, 0, 0, 6), -1);
        Check.due("price of quarter -1", x.priced(0, -1, 0, 6), -1);
        Check.due("price of quarter 4", x.priced(0, 4, 0, 6), -1);
        Check.due("price of good -1", x.priced(0, 0, -1, 6), -1);
        Check.due("price of good 4", x.priced(0, 0, 4, 6), -1);
        Check.due("price known by -1", x.priced(0, 0, 0, -1), -1);
        Check.due("price known by 7", x.priced(0, 0, 0, 7), -1);
    }

    private static void leasts() {
        WageCourt x = land();
        x.price(0, 0, 0, 1);
        x.price(0, 1, 1, 10);
        x.price(0, 2, 2, 20);
        x.price(0, 3, 3, 30);
        int[] due = {1, 11, 31, 61};
        for (int quarter = 0; quarter < 4; quarter++) {
            Check.due("least", x.least(0, quarter, 4), due[quarter]);
        }
        Check.due("least by 3", x.least(0, 3, 3), 31);
        Check.due("least by 0", x.least(0, 3, 0), 0);
        x.weight(2, 9);
        x.weight(0, 0);
        Check.due("least with weights", x.least(0, 3, 4), 220);
        Check.due("least with weights as known", x.least(0, 3, 3), 190);
        Check.due("least of the other town", x.least(1, 3, 4), 0);
        Check.due("least of town 2", x.least(2, 0, 4), -1);
        Check.due("least of town -1", x.least(-1, 0, 4), -1);
        Check.due("least of quarter 4", x.least(0, 4, 4), -1);
        Check.due("least of quarter -1", x.least(0, -1, 4), -1);
        Check.due("least by 5", x.least(0, 0, 5), -1);
        Check.due("least by -1", x.least(0, 0, -1), -1);
    }

    private static void wets() {
        WageCourt x = land();
        int[][] wrong = {{-1, 0, 0}, {2, 0, 0}, {0, -1, 0}, {0, 140, 0}, {0, 0, -1}, {0, 0, 10}};
        for (int[] w : wrong) {
            Check.due("wrong wet", x.wet(w[0], w[1], w[2]), -1);
        }
        Check.due("facts", x.count(3), 0);
        int award = Check.tell(x, "award a from 0; binds if 0 == 0; class c tasks 1 margin 0; extra e wet;");
        Check.row(x, 0, 3, 0, 1);
        Check.due("wet", x.wet(0, 3, 9), 2);
        Check.due("wet of another day", x.wet(0, 139, 8), 3);
        Check.due("wet of another firm", x.wet(1, 3, 7), 4);
        Check.due("wet again", x.wet(0, 3, 5), 5);
        int[] due = {0, 1800, 1800, 1800, 1000};
        for (int n = 2; n <= 6; n++) {
            Check.due("worth with wet by " + n, x.worth(0, 3, 0, n), due[n - 2]);
        }
        Check.due("award", award, 0);
        x = land();
        x.wet(0, 3, 6);
        Check.tell(x, "award a from 0; binds if 0 == 0; class c tasks 1 margin 0; extra e wet;");
        Check.row(x, 0, 3, 0, 1);
        Check.due("worth with the wet that is the first fact", x.worth(0, 3, 0, 3), 1200);
    }

    private static void rows() {
        WageCourt x = land();
        int[][] wrong = {{-1, 0, 1}, {2, 0, 1}, {0, -1, 1}, {0, 140, 1}, {0, 0, 0}, {0, 0, 49}, {0, 0, -2}};
        for (int[] w : wrong) {
            Check.due("wrong row", x.row(w[0], w[1], w[2]), -1);
        }
        Check.due("facts", x.count(3), 0);
        Check.due("did without a row", x.did(0, 5, 47, 0), -1);
        Check.due("row", x.row(0, 5, 2), 0);
        x.cell(0, 3);
        Check.due("missing row", x.row(0, 5, -1), 1);
        Check.due("row", x.row(0, 5, 48), 2);
        x.cell(47, 16);
        Check.due("row of another person", x.row(1, 5, 1), 3);
        Check.due("row of another day", x.row(0, 6, 1), 4);
        Check.due("did in a cell", x.did(0, 5, 0, 1), 3);
        Check.due("did in a cell of nothing", x.did(0, 5, 1, 1), -1);
        Check.due("did behind the last cell", x.did(0, 5, 2, 1), -2);
        Check.due("did in the last half", x.did(0, 5, 47, 1), -2);
        Check.due("did of a missing row", x.did(0, 5, 0, 2), -2);
        Check.due("did of the row told last", x.did(0, 5, 0, 3), -1);
        Check.due("did of the row told last", x.did(0, 5, 47, 5), 16);
        Check.due("did before all", x.did(0, 5, 0, 0), -1);
        Check.due("did of another person", x.did(1, 5, 1, 5), -2);
        Check.due("did of another day", x.did(0, 6, 1, 5), -2);
    }

    private static void cells() {
        WageCourt x = land();
        Check.due("cell without a fact", x.cell(0, 0), false);
        x.row(0, 0, 3);
        int[] right = {-1, 0, 15, 16};
        for (int v : right) {
            Check.due("cell", x.cell(2, v), true);
            Check.due("did", x.did(0, 0, 2, 1), v);
        }
        Check.due("cell 3", x.cell(3, 0), false);
        Check.due("cell -1", x.cell(-1, 0), false);
        Check.due("cell of 17", x.cell(2, 17), false);
        Check.due("cell of -2", x.cell(2, -2), false);
        Check.due("did after wrong cells", x.did(0, 0, 2, 1), 16);
        x.row(0, 1, -1);
        Check.due("cell of a missing row", x.cell(0, 0), false);
        x.row(0, 2, 1);
        x.wet(0, 0, 0);
        Check.due("cell behind another fact", x.cell(0, 0), false);
        x.row(0, 2, 1);
        Check.tell(x, "award a from 0;");
        Check.due("cell behind a text", x.cell(0, 0), false);
        x.row(0, 3, 1);
        x.price(9, 9, 9, 9);
        x.marks(0, 1);
        Check.due("cell behind what is no fact", x.cell(0, 5), true);
        Check.due("cell known as of its row", x.did(0, 3, 0, x.count(3)), 5);
        Check.due("no cell as of before", x.did(0, 3, 0, x.count(3) - 1), -1);
    }

    private static void claims() {
        WageCourt x = land();
        Check.due("log without an award", x.log(0, 0, 0), -1);
        int award = Check.tell(x, "award a from 0; class c tasks 1 margin 1;");
        int vary = Check.tell(x, "vary a from 0;");
        int wet = x.wet(0, 0, 0);
        int[][] wrong = {{-1, 0, 0}, {vary, 0, 0}, {wet, 0, 0}, {3, 0, 0}, {award, -1, 0}, {award, 2, 0},
            {award, 0, -1}, {award, 0, 10000}};
        for (int[] w : wrong) {
            Check.due("wrong log", x.log(w[0], w[1], w[2]), -1);
            Check.due("wrong answer", x.answer(w[0], w[1], w[2]), -1);
        }
        Check.due("facts", x.count(3), 3);
        Check.due("log", x.log(award, 1, 0), 3);
        Check.due("answer", x.answer(award, 1, 9999), 4);
        Check.due("log of any name", x.log(award, 0, 9999), 5);
        Check.due("answer of any name", x.answer(award, 0, 0), 6);
    }

    private static void payments() {
        WageCourt x = land();
        int[][] wrong = {{-1, 0, 0}, {2, 0, 0}, {0, -1, 0}, {0, 20, 0}, {0, 0, -100000}, {0, 0, 100000}};
        for (int[] w : wrong) {
            Check.due("wrong payment", x.paid(w[0], w[1], w[2]), -1);
        }
        Check.due("facts", x.count(3), 0);
        Check.due("paid", x.paid(0, 0, 99999), 0);
        Check.due("paid", x.paid(0, 19, -99999), 1);
        Check.due("paid", x.paid(1, 0, 0), 2);
        Check.due("owed", x.owed(0, 0, 3), -99999);
        Check.due("owed", x.owed(0, 19, 3), 99999);
    }

    private static void stays() {
        WageCourt x = land();
        Check.due("stay of no text", x.stay(0, 0, 1), -1);
        x.wet(0, 0, 0);
        int award = Check.tell(x, "award a from 10;");
        int[][] wrong = {{0, 0, 1}, {-1, 0, 1}, {2, 0, 1}, {award, -1, 1}, {award, 1, 1}, {award, 2, 1},
            {award, 0, 141}, {award, 140, 141}};
        for (int[] w : wrong) {
            Check.due("wrong stay", x.stay(w[0], w[1], w[2]), -1);
        }
        Check.due("facts", x.count(3), 2);
        Check.due("stay", x.stay(award, 12, 14), 2);
        Check.due("stay up to the end", x.stay(award, 139, 140), 3);
        int[] days = {9, 10, 11, 12, 13, 14, 138, 139};
        int[] due = {0, 1, 1, 0, 0, 1, 1, 0};
        for (int i = 0; i < days.length; i++) {
            Check.due("force on day " + days[i], x.force(award, days[i], 0, 4), due[i]);
        }
        Check.due("force before the stay is known", x.force(award, 12, 0, 2), 1);
        Check.due("force before the second is known", x.force(award, 139, 0, 3), 1);
    }

    private static void kinds() {
        WageCourt x = land();
        Check.tell(x, "award a from 0;");
        Check.tell(x, "vary a from 0;");
        Check.tell(x, "order a firm 0 from 0;");
        Check.tell(x, "agree a firm 0 from 0;");
        x.price(0, 0, 0, 0);
        x.wet(0, 0, 0);
        x.row(0, 0, 1);
        x.log(0, 0, 0);
        x.answer(0, 0, 0);
        x.paid(0, 0, 0);
        x.stay(0, 0, 1);
        for (int i = 0; i <= 10; i++) {
            Check.due("kind", x.kind(i), i);
        }
        Check.due("kind of 11", x.kind(11), -1);
        Check.due("kind of -1", x.kind(-1), -1);
        Check.due("kind of 160", x.kind(160), -1);
    }

    private static void awards() {
        WageCourt x = land();
        x.wet(0, 0, 0);
        Check.tell(x, "award a from 0;");
        Check.tell(x, "award b from 0;");
        Check.tell(x, "vary b from 0;");
        Check.tell(x, "order a firm 0 from 0;");
        Check.tell(x, "agree b firm 0 from 0;");
        int[] due = {-1, 1, 2, 2, 1, 2};
        for (int i = 0; i < due.length; i++) {
            Check.due("award of " + i, x.award(i), due[i]);
        }
        Check.due("award of -1", x.award(-1), -1);
        Check.due("award of 6", x.award(6), -1);
    }

    private static void fullLedger() {
        WageCourt x = land();
        int award = Check.tell(x, "award a from 0;");
        for (int i = 1; i < 159; i++) {
            x.wet(0, 0, 1);
        }
        Check.due("the last fact", x.row(0, 0, 1), 159);
        Check.due("cell of the last fact", x.cell(0, 7), true);
        Check.due("price too many", x.price(0, 0, 0, 0), -1);
        Check.due("wet too many", x.wet(0, 0, 0), -1);
        Check.due("row too many", x.row(0, 0, 1), -1);
        Check.due("log too many", x.log(award, 0, 0), -1);
        Check.due("answer too many", x.answer(award, 0, 0), -1);
        Check.due("payment too many", x.paid(0, 0, 0), -1);
        Check.due("stay too many", x.stay(award, 0, 1), -1);
        Check.due("facts", x.count(3), 160);
        Check.due("cell still", x.cell(0, 8), true);
        Check.due("did", x.did(0, 0, 0, 160), 8);
    }
}
