/** Boundary cases of PRICES, THE LEAST, WETS, ROWS (Terms), and of promises 12 to 23. */
final class EdgeFactTest {
    private static final int LEAST = Integer.MIN_VALUE;
    private static final int MOST = Integer.MAX_VALUE;

    public static void main(String[] args) {
        prices();
        pricesRefused();
        pricesToldLast();
        priced();
        least();
        wets();
        wetsRefused();
        rows();
        rowsRefused();
        rowsToldLast();
        cells();
        cellsRefused();
        logs();
        logsRefused();
        payments();
        paymentsRefused();
        stays();
        staysRefused();
        fullLedger();
        kinds();
        awards();
        Check.end();
    }

    /** Two towns, two firms, two people; an award, a vary, an order, an agree; PRICES, a ROW. */
    private static void told(WageCourt x) {
        for (int i = 0; i < 2; i++) {
            x.town();
            x.firm(i, i);
            x.person(i, 0, 0);
        }
        Check.tell(x, "award a from 0; binds if 0 == 0; class c tasks 1 margin 10; extra e wet;");
        Check.tell(x, "vary a from 0; margin c is 20;");
        Check.tell(x, "order a firm 0 from 0; round 2;");
        Check.tell(x, "agree a firm 0 from 0;");
        x.price(0, 0, 0, 5);
        Check.row(x, 0, 0, 0, 1, 16, 2);
    }

    private static WageCourt court() {
        WageCourt x = new WageCourt();
        told(x);
        return x;
    }

    /** The same, and 160 FACTS. */
    private static void toldFull(WageCourt x) {
        told(x);
        Check.fillFacts(x, 159);
        Check.due("the last fact", x.row(1, 0, 3), 159);
    }

    private static void prices() {
        Check.holds("Promise 12", "A PRICE: its FACT's number.");
        WageCourt x = court();
        int fact = 6;
        int[][] right = {{0, 0, 0, 0}, {1, 3, 3, 99}, {0, 0, 0, 1}, {1, 3, 3, 98}, {0, 3, 0, 99}, {1, 0, 3, 0}};
        for (int[] r : right) {
            Check.due("price", x.price(r[0], r[1], r[2], r[3]), fact);
            fact++;
            Check.due("facts", x.count(3), fact);
            Check.due("kind of it", x.kind(fact - 1), 4);
            Check.due("priced", x.priced(r[0], r[1], r[2], fact), r[3]);
        }
    }

    private static void pricesRefused() {
        Check.holds("Promise 12", "NONE, and nothing happens: 160 are there, no such ones.");
        int[][] wrong = {{-1, 0, 0, 7}, {2, 0, 0, 7}, {LEAST, 0, 0, 7}, {MOST, 0, 0, 7}, {0, -1, 0, 7}, {0, 4, 0, 7},
            {0, LEAST, 0, 7}, {0, MOST, 0, 7}, {0, 0, -1, 7}, {0, 0, 4, 7}, {0, 0, LEAST, 7}, {0, 0, MOST, 7},
            {0, 0, 0, -1}, {0, 0, 0, 100}, {0, 0, 0, LEAST}, {0, 0, 0, MOST}};
        for (int[] w : wrong) {
            Twins.refused("price" + java.util.Arrays.toString(w), EdgeFactTest::told, -1,
                    c -> c.price(w[0], w[1], w[2], w[3]));
        }
        Twins.refused("price with 160 facts", EdgeFactTest::toldFull, -1, c -> c.price(0, 0, 0, 9));
        Check.due("price without a town", new WageCourt().price(0, 0, 0, 0), -1);
    }

    private static void pricesToldLast() {
        Check.holds("Terms", "PRICE of a GOOD in a TOWN and a QUARTER (0 .. 99 pence), as told last; one that is not told"
                + " is that of the QUARTER ahead, and so on, 0 without.");
        WageCourt x = new WageCourt();
        x.town();
        x.town();
        four(x, 0, 0, 0, 0, 0);
        x.price(0, 2, 1, 20);
        four(x, 1, 0, 0, 20, 20);
        x.price(0, 2, 1, 21);
        four(x, 2, 0, 0, 21, 21);
        x.price(0, 0, 1, 1);
        four(x, 3, 1, 1, 21, 21);
        x.price(0, 3, 1, 0);
        four(x, 4, 1, 1, 21, 0);
        x.price(0, 1, 1, 99);
        four(x, 5, 1, 99, 21, 0);
        x.price(0, 0, 1, 2);
        four(x, 6, 2, 99, 21, 0);
        x.price(0, 2, 1, 0);
        four(x, 7, 2, 99, 0, 0);
        x.price(1, 1, 1, 50);
        x.price(0, 1, 0, 51);
        x.price(0, 1, 2, 52);
        four(x, 10, 2, 99, 0, 0);
        four(x, 3, 1, 1, 21, 21);
        four(x, 0, 0, 0, 0, 0);
    }

    private static void four(WageCourt x, int n, int... due) {
        for (int quarter = 0; quarter < 4; quarter++) {
            Check.due("priced in quarter " + quarter + " by " + n, x.priced(0, quarter, 1, n), due[quarter]);
        }
    }

    private static void priced() {
        Check.holds("Promise 20", "PRICE of a GOOD in a TOWN and a QUARTER, as KNOWN by n; NONE: no such ones.");
        WageCourt x = court();
        Check.due("priced by 4", x.priced(0, 0, 0, 4), 0);
        Check.due("priced by 5", x.priced(0, 0, 0, 5), 5);
        Check.due("priced by 6", x.priced(0, 3, 0, 6), 5);
        Check.due("priced of the last ones", x.priced(1, 3, 3, 6), 0);
        int[][] wrong = {{-1, 0, 0, 6}, {2, 0, 0, 6}, {LEAST, 0, 0, 6}, {MOST, 0, 0, 6}, {0, -1, 0, 6}, {0, 4, 0, 6},
            {0, LEAST, 0, 6}, {0, MOST, 0, 6}, {0, 0, -1, 6}, {0, 0, 4, 6}, {0, 0, LEAST, 6}, {0, 0, MOST, 6},
            {0, 0, 0, -1}, {0, 0, 0, 7}, {0, 0, 0, 160}, {0, 0, 0, LEAST}, {0, 0, 0, MOST}};
        for (int[] w : wrong) {
            Check.due("priced" + java.util.Arrays.toString(w), x.priced(w[0], w[1], w[2], w[3]), -1);
        }
    }

    private static void least() {
        Check.holds("Terms", "THE LEAST of a TOWN in a QUARTER: of all GOODS WEIGHT times PRICE, together.");
        Check.holds("Promise 21", "THE LEAST of a TOWN in a QUARTER, as KNOWN by n; NONE: no such ones.");
        WageCourt x = new WageCourt();
        x.town();
        x.town();
        Check.due("least without prices", x.least(0, 3, 0), 0);
        for (int good = 0; good < 4; good++) {
            x.price(0, good, good, 99);
            x.weight(good, 9);
        }
        for (int quarter = 0; quarter < 4; quarter++) {
            Check.due("least in quarter " + quarter, x.least(0, quarter, 4), 891 * (quarter + 1));
            Check.due("least in the other town", x.least(1, quarter, 4), 0);
            Check.due("least by " + quarter, x.least(0, 3, quarter), 891 * quarter);
        }
        for (int good = 0; good < 4; good++) {
            x.weight(good, 0);
            Check.due("least with weights 0", x.least(0, 3, 4), 891 * (3 - good));
        }
        x.weight(2, 1);
        Check.due("least with one good", x.least(0, 3, 4), 99);
        int[][] wrong = {{-1, 0, 4}, {2, 0, 4}, {LEAST, 0, 4}, {MOST, 0, 4}, {0, -1, 4}, {0, 4, 4}, {0, LEAST, 4},
            {0, MOST, 4}, {0, 0, -1}, {0, 0, 5}, {0, 0, LEAST}, {0, 0, MOST}};
        for (int[] w : wrong) {
            Check.due("least" + java.util.Arrays.toString(w), x.least(w[0], w[1], w[2]), -1);
        }
        Check.due("least without a town", new WageCourt().least(0, 0, 0), -1);
    }

    /** WET in pence: the extra of the award. */
    private static int wet(WageCourt x, int n) {
        return (x.worth(0, 0, 0, n) - x.rate(0, 0, 0, n) * 100) / 200;
    }

    private static void wets() {
        Check.holds("Terms", "WET of a FIRM on a DAY: 0 .. 9, as told last; 0 without.");
        Check.holds("Promise 13", "A WET: its FACT's number.");
        WageCourt x = court();
        Check.due("wet without", wet(x, 6), 0);
        int[][] told = {{0, 0, 9}, {1, 0, 8}, {0, 1, 7}, {0, 0, 1}, {0, 139, 9}, {1, 139, 0}, {0, 0, 0}, {0, 0, 3}};
        int[] due = {9, 9, 9, 1, 1, 1, 0, 3};
        for (int i = 0; i < told.length; i++) {
            Check.due("wet", x.wet(told[i][0], told[i][1], told[i][2]), 6 + i);
            Check.due("kind of it", x.kind(6 + i), 5);
            Check.due("wet as told last, behind " + i, wet(x, 7 + i), due[i]);
        }
        Check.due("wet as known by 6", wet(x, 6), 0);
        Check.due("wet as known by 7", wet(x, 7), 9);
    }

    private static void wetsRefused() {
        Check.holds("Promise 13", "NONE, and nothing happens: 160 are there, no such ones.");
        int[][] wrong = {{-1, 0, 1}, {2, 0, 1}, {LEAST, 0, 1}, {MOST, 0, 1}, {0, -1, 1}, {0, 140, 1}, {0, LEAST, 1},
            {0, MOST, 1}, {0, 0, -1}, {0, 0, 10}, {0, 0, LEAST}, {0, 0, MOST}};
        for (int[] w : wrong) {
            Twins.refused("wet" + java.util.Arrays.toString(w), EdgeFactTest::told, -1, c -> c.wet(w[0], w[1], w[2]));
        }
        Twins.refused("wet with 160 facts", EdgeFactTest::toldFull, -1, c -> c.wet(0, 0, 9));
        Check.due("wet without a firm", new WageCourt().wet(0, 0, 0), -1);
    }

    private static void rows() {
        Check.holds("Promise 14", "A ROW of n cells, or (n NONE) a MISSING one: its FACT's number.");
        Check.holds("Terms", "A ROW of a PERSON and a DAY, as told last, has 1 .. 48 cells or is MISSING: cell i is what"
                + " was done in the HALF i: a TASK, a BREAK (16), or NOTHING (NONE; so at first). HALVES behind its last"
                + " cell are UNKNOWN; with a MISSING one all are, and without a ROW all are NOTHING.");
        WageCourt x = court();
        int[] sizes = {1, 2, 47, 48, -1};
        for (int i = 0; i < sizes.length; i++) {
            int size = sizes[i];
            Check.due("did without a row", x.did(1, 9, 0, x.count(3)), -1);
            Check.due("unknown without a row", x.halves(1, i + 1, x.count(3), 1), 0);
            Check.due("row of " + size, x.row(1, 7 * i + 7, size), 6 + i);
            Check.due("kind of it", x.kind(6 + i), 6);
            for (int half = 0; half < 48; half++) {
                Check.due("did in half " + half + " of a row of " + size, x.did(1, 7 * i + 7, half, 7 + i),
                        half < size ? -1 : -2);
            }
            Check.due("unknown with a row of " + size, x.halves(1, i + 1, 7 + i, 1), 48 - Math.max(0, size));
            Check.due("tasks in it", x.halves(1, i + 1, 7 + i, 0), 0);
        }
    }

    private static void rowsRefused() {
        Check.holds("Promise 14", "NONE, and nothing happens: 160 are there, no such ones.");
        int[][] wrong = {{-1, 0, 1}, {2, 0, 1}, {LEAST, 0, 1}, {MOST, 0, 1}, {0, -1, 1}, {0, 140, 1}, {0, LEAST, 1},
            {0, MOST, 1}, {0, 0, 0}, {0, 0, 49}, {0, 0, -2}, {0, 0, LEAST}, {0, 0, MOST}};
        for (int[] w : wrong) {
            Twins.refused("row" + java.util.Arrays.toString(w), EdgeFactTest::told, -1, c -> c.row(w[0], w[1], w[2]));
        }
        Twins.refused("row with 160 facts", EdgeFactTest::toldFull, -1, c -> c.row(0, 0, 1));
        Check.due("row without a person", new WageCourt().row(0, 0, 1), -1);
        WageCourt x = court();
        Check.due("row of the last person and day", x.row(1, 139, 48), 6);
        Check.due("row of day 0", x.row(1, 0, -1), 7);
    }

    /** The ROW told last counts alone; nothing of the one ahead is left in it. */
    private static void rowsToldLast() {
        WageCourt x = court();
        x.row(0, 0, 2);
        x.cell(1, 5);
        x.row(0, 0, -1);
        x.row(0, 0, 48);
        x.cell(2, 7);
        x.row(1, 0, -1);
        x.row(0, 1, -1);
        int[][] due = {{-1, -1, -1, -1}, {1, 16, 2, -1}, {-1, 5, -2, -2}, {-2, -2, -2, -2}, {-1, -1, 7, -1}};
        for (int n = 5; n <= 11; n++) {
            int[] d = due[Math.min(n - 5, 4)];
            for (int half = 0; half < 4; half++) {
                Check.due("did in half " + half + " by " + n, x.did(0, 0, half, n), d[half]);
            }
        }
    }

    private static void cells() {
        Check.holds("Promise 15", "Cell i of the ROW that is the last FACT becomes v (NONE, a TASK, 16), as of its telling:"
                + " true;");
        WageCourt x = court();
        x.row(0, 5, 48);
        int[] values = {0, 1, 14, 15, 16, -1, 3};
        int[] cells = {0, 1, 46, 47};
        for (int cell : cells) {
            for (int v : values) {
                Check.due("cell " + cell + " becomes " + v, x.cell(cell, v), true);
                Check.due("did", x.did(0, 5, cell, 7), v);
            }
        }
        Check.due("did ahead of the row", x.did(0, 5, 0, 6), -1);
        Check.due("facts", x.count(3), 7);
        Check.due("pay by the row", x.pay(0, 0, 7), x.pay(0, 0, 6));
        x.cell(0, 1);
        Check.due("pay turned as of the row", x.turned(6, 7), 0);
        x.row(0, 6, 1);
        Check.due("cell of a row of 1", x.cell(0, 9), true);
        Check.due("did in the row ahead of it", x.did(0, 5, 0, 8), 1);
    }

    private static void cellsRefused() {
        Check.holds("Promise 15", "false: the last FACT is no ROW, it has no such cell, no such v.");
        int[][] wrong = {{-1, 1}, {48, 1}, {49, 1}, {LEAST, 1}, {MOST, 1}, {0, -2}, {0, 17}, {47, LEAST}, {47, MOST}};
        for (int[] w : wrong) {
            Twins.refused("cell" + java.util.Arrays.toString(w), EdgeFactTest::told, false,
                    c -> Twins.bit(c.cell(w[0], w[1])));
        }
        Twins.Told[] last = {c -> c.price(0, 0, 0, 5), c -> c.wet(0, 0, 0), c -> c.log(0, 1, 1), c -> c.answer(0, 1, 1),
            c -> c.paid(0, 0, 0), c -> c.stay(3, 0, 1), c -> Check.tell(c, "vary a from 0;"), c -> c.row(0, 0, -1)};
        for (int i = 0; i < last.length; i++) {
            Twins.Told next = last[i];
            Twins.refused("cell behind another fact, " + i, c -> {
                told(c);
                next.to(c);
            }, false, c -> Twins.bit(c.cell(0, 5)));
        }
        int[] sizes = {1, 2, 47, 48};
        for (int size : sizes) {
            WageCourt x = court();
            x.row(1, 1, size);
            Check.due("the last cell of " + size, x.cell(size - 1, 1), true);
            Check.due("a cell behind the last of " + size, x.cell(size, 1), false);
            if (size < 48) {
                Check.due("did behind the last of " + size, x.did(1, 1, size, 7), -2);
            }
        }
        Check.due("cell without a fact", new WageCourt().cell(0, 1), false);
        WageCourt x = court();
        Check.due("a text with a fault", Check.read(x, "x"), 1);
        x.row(0, 0, 0);
        x.weight(0, 2);
        x.named();
        Check.due("cell, the row is the last fact still", x.cell(3, 1), true);
    }

    private static void logs() {
        Check.holds("Promise 16", "A LOG for an award (its FACT) and a NAME's number: v (0 .. 9999): its FACT's number.");
        Check.holds("Promise 17", "An ANSWER, likewise.");
        WageCourt x = court();
        int[][] right = {{0, 0}, {0, 9999}, {1, 0}, {1, 1}, {1, 9998}, {1, 9999}, {2, 5}};
        for (int[] r : right) {
            int facts = x.count(3);
            Check.due("log", x.log(0, r[0], r[1]), facts);
            Check.due("kind of it", x.kind(facts), 7);
            Check.due("answer", x.answer(0, r[0], r[1]), facts + 1);
            Check.due("kind of it", x.kind(facts + 1), 8);
        }
        int[] edges = {0, 1, 9998, 9999};
        for (int v : edges) {
            x.log(0, 1, v);
            x.answer(0, 1, v);
            Check.tell(x, "vary a from 0; margin c is " + v + ";");
            int n = x.count(3);
            Check.due("fate of the margin " + v, x.fate(n - 1, 0, 0, 0, n), 0);
        }
        Check.due("names", x.count(5), 3);
        Check.due("log of the last name", x.log(0, 2, 0), x.count(3) - 1);
        Check.due("log of a name that is still to come", x.log(0, 3, 0), -1);
        Check.tell(x, "vary a from 0; strike d;");
        Check.due("log of a name that has come", x.log(0, 3, 0), x.count(3) - 1);
        Check.due("answer of it", x.answer(0, 3, 0), x.count(3) - 1);
    }

    private static void logsRefused() {
        Check.holds("Promise 16", "NONE, and nothing happens: 160 are there, no such ones.");
        int[][] wrong = {{-1, 1, 5}, {1, 1, 5}, {2, 1, 5}, {3, 1, 5}, {4, 1, 5}, {5, 1, 5}, {6, 1, 5}, {LEAST, 1, 5},
            {MOST, 1, 5}, {0, -1, 5}, {0, 3, 5}, {0, LEAST, 5}, {0, MOST, 5}, {0, 1, -1}, {0, 1, 10000}, {0, 1, LEAST},
            {0, 1, MOST}};
        for (int[] w : wrong) {
            Twins.refused("log" + java.util.Arrays.toString(w), EdgeFactTest::told, -1, c -> c.log(w[0], w[1], w[2]));
            Twins.refused("answer" + java.util.Arrays.toString(w), EdgeFactTest::told, -1,
                    c -> c.answer(w[0], w[1], w[2]));
        }
        Twins.refused("log with 160 facts", EdgeFactTest::toldFull, -1, c -> c.log(0, 1, 5));
        Twins.refused("answer with 160 facts", EdgeFactTest::toldFull, -1, c -> c.answer(0, 1, 5));
        Check.due("log without an award", new WageCourt().log(0, 0, 0), -1);
    }

    private static void payments() {
        Check.holds("Promise 18", "A PAYMENT of v pence (-99999 .. 99999) for a WEEK: its FACT's number.");
        WageCourt x = court();
        int[][] right = {{1, 0, 99999}, {1, 1, -99999}, {1, 18, 99998}, {1, 19, -99998}, {1, 2, 0}, {1, 3, 1}, {1, 4, -1}};
        for (int i = 0; i < right.length; i++) {
            Check.due("paid", x.paid(right[i][0], right[i][1], right[i][2]), 6 + i);
            Check.due("kind of it", x.kind(6 + i), 9);
            Check.due("owed", x.owed(1, right[i][1], 7 + i), -right[i][2]);
            Check.due("owed ahead of it", x.owed(1, right[i][1], 6 + i), 0);
        }
    }

    private static void paymentsRefused() {
        Check.holds("Promise 18", "NONE, and nothing happens: 160 are there, no such ones.");
        int[][] wrong = {{-1, 0, 1}, {2, 0, 1}, {LEAST, 0, 1}, {MOST, 0, 1}, {0, -1, 1}, {0, 20, 1}, {0, LEAST, 1},
            {0, MOST, 1}, {0, 0, -100000}, {0, 0, 100000}, {0, 0, LEAST}, {0, 0, MOST}};
        for (int[] w : wrong) {
            Twins.refused("paid" + java.util.Arrays.toString(w), EdgeFactTest::told, -1, c -> c.paid(w[0], w[1], w[2]));
        }
        Twins.refused("paid with 160 facts", EdgeFactTest::toldFull, -1, c -> c.paid(0, 0, 1));
        Check.due("paid without a person", new WageCourt().paid(0, 0, 1), -1);
    }

    private static void stays() {
        Check.holds("Promise 19", "A STAY of a TEXT (its FACT) on DAYS a .. b - 1: its FACT's number.");
        int[][] right = {{0, 1}, {0, 140}, {139, 140}, {138, 139}, {5, 9}};
        for (int text = 0; text < 4; text++) {
            for (int[] r : right) {
                WageCourt x = court();
                Check.due("stay", x.stay(text, r[0], r[1]), 6);
                Check.due("kind of it", x.kind(6), 10);
                int[] days = {0, r[0] - 1, r[0], r[1] - 1, r[1], 139};
                for (int day : days) {
                    int due = day < 0 || day > 139 ? -1 : day >= r[0] && day < r[1] ? 0 : 1;
                    Check.due("force of " + text + " on day " + day, x.force(text, day, 0, 7), due);
                    Check.due("force ahead of it", x.force(text, day, 0, 6), due == -1 ? -1 : 1);
                }
            }
        }
    }

    private static void staysRefused() {
        Check.holds("Promise 19", "NONE, and nothing happens: 160 are there, no such TEXT, a not 0 .. b - 1, b above 140.");
        int[][] wrong = {{-1, 0, 1}, {4, 0, 1}, {5, 0, 1}, {6, 0, 1}, {LEAST, 0, 1}, {MOST, 0, 1}, {0, -1, 1}, {0, -1, 0},
            {0, 0, 0}, {0, 1, 1}, {0, 2, 1}, {0, 139, 139}, {0, 140, 140}, {0, 140, 141}, {0, 139, 141}, {0, 0, 141},
            {0, 0, -1}, {0, LEAST, 1}, {0, MOST, 1}, {0, 0, MOST}, {0, 0, LEAST}, {0, LEAST, LEAST}, {0, MOST, MOST},
            {0, MOST, LEAST}, {0, MOST - 1, MOST}, {0, LEAST, MOST}};
        for (int[] w : wrong) {
            Twins.refused("stay" + java.util.Arrays.toString(w), EdgeFactTest::told, -1, c -> c.stay(w[0], w[1], w[2]));
        }
        Twins.refused("stay with 160 facts", EdgeFactTest::toldFull, -1, c -> c.stay(0, 0, 140));
        Check.due("stay without a text", new WageCourt().stay(0, 0, 1), -1);
    }

    /** The 160th FACT of each kind goes, and nothing goes behind it. */
    private static void fullLedger() {
        Twins.Call[] last = {c -> c.price(1, 3, 3, 99), c -> c.wet(1, 139, 9), c -> c.row(1, 139, 48),
            c -> c.log(0, 1, 9999), c -> c.answer(0, 1, 9999), c -> c.paid(1, 19, -99999), c -> c.stay(3, 0, 140)};
        for (int i = 0; i < last.length; i++) {
            WageCourt x = court();
            Check.fillFacts(x, 159);
            Check.due("the 160th fact", last[i].on(x), 159);
            Check.due("kind of it", x.kind(159), 4 + i);
            for (Twins.Call call : last) {
                Check.due("a 161st fact", call.on(x), -1);
            }
            Check.due("facts", x.count(3), 160);
        }
    }

    private static void kinds() {
        Check.holds("Promise 22", "What a FACT is: 0 an award, 1 a vary, 2 an order, 3 an agree, 4 PRICE, 5 WET, 6 ROW,"
                + " 7 LOG, 8 ANSWER, 9 PAYMENT, 10 STAY; NONE: there is none such.");
        WageCourt x = court();
        x.wet(0, 0, 0);
        x.row(0, 0, -1);
        x.log(0, 0, 0);
        x.answer(0, 0, 0);
        x.paid(0, 0, 0);
        x.stay(0, 0, 1);
        int[] due = {0, 1, 2, 3, 4, 6, 5, 6, 7, 8, 9, 10};
        for (int i = 0; i < due.length; i++) {
            Check.due("kind of fact " + i, x.kind(i), due[i]);
        }
        int[] none = {-1, 12, 13, 159, 160, LEAST, MOST};
        for (int fact : none) {
            Check.due("kind of fact " + fact, x.kind(fact), -1);
        }
    }

    private static void awards() {
        Check.holds("Promise 23", "The award (its FACT) of a TEXT; NONE: no such TEXT.");
        WageCourt x = court();
        Check.tell(x, "award b from 139;");
        Check.tell(x, "vary b from 0;");
        Check.tell(x, "vary a from 0;");
        Check.tell(x, "agree b firm 7 from 0;");
        int[] due = {0, 0, 0, 0, -1, -1, 6, 6, 0, 6};
        for (int i = 0; i < due.length; i++) {
            Check.due("award of fact " + i, x.award(i), due[i]);
        }
        int[] none = {-1, 10, 160, LEAST, MOST};
        for (int fact : none) {
            Check.due("award of fact " + fact, x.award(fact), -1);
        }
    }
}
