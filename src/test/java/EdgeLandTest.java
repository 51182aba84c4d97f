/** Boundary cases of THE LAND and of FACTS at large (Terms), and of promises 1, 7 to 11 and 46. */
final class EdgeLandTest {
    public static void main(String[] args) {
        newObject();
        objectsShareNothing();
        lastOf512Calls();
        towns();
        firms();
        firmsShown();
        people();
        peopleShown();
        days();
        halves();
        tasks();
        marks();
        marksShown();
        goods();
        weights();
        facts();
        kindsOfFacts();
        counts();
        fullCounts();
        Check.end();
    }

    private static void newObject() {
        Check.holds("The public face", "public static final int NONE = -1;");
        Check.due("NONE", WageCourt.NONE, -1);
        Check.holds("Promise 1", "Nobody, nothing is told; WEIGHTS are 1.");
        WageCourt x = new WageCourt();
        for (int what = 0; what <= 6; what++) {
            Check.due("count " + what, x.count(what), 0);
        }
        Check.due("back(0)", x.back(0), 0);
        Check.due("back(1)", x.back(1), -1);
        Check.due("place", x.place(), -1);
        Check.due("named", x.named(), -1);
        Check.due("firm", x.firm(0, 0), -1);
        Check.due("person", x.person(0, 0, 0), -1);
        Check.due("price", x.price(0, 0, 0, 0), -1);
        Check.due("wet", x.wet(0, 0, 0), -1);
        Check.due("row", x.row(0, 0, 1), -1);
        Check.due("cell", x.cell(0, 0), false);
        Check.due("log", x.log(0, 0, 0), -1);
        Check.due("answer", x.answer(0, 0, 0), -1);
        Check.due("paid", x.paid(0, 0, 0), -1);
        Check.due("stay", x.stay(0, 0, 1), -1);
        newObjectAsked(x);
        x.town();
        for (int good = 0; good < 4; good++) {
            Check.due("priced at first", x.priced(0, 0, good, 0), 0);
            x.price(0, 0, good, 10 + good);
            Check.due("least with the weight at first", x.least(0, 0, good + 1), x.least(0, 0, good) + 10 + good);
        }
    }

    private static void newObjectAsked(WageCourt x) {
        Check.due("priced", x.priced(0, 0, 0, 0), -1);
        Check.due("least", x.least(0, 0, 0), -1);
        Check.due("kind", x.kind(0), -1);
        Check.due("award", x.award(0), -1);
        Check.due("force", x.force(0, 0, 0, 0), -1);
        Check.due("fate", x.fate(0, 0, 0, 0, 0), -1);
        Check.due("item", x.item(0, 0, 0, 0, 0, 0), -1);
        Check.due("margin", x.margin(0, 0, 0, 0, 0), -1000000);
        Check.due("did", x.did(0, 0, 0, 0), -3);
        Check.due("bound", x.bound(0, 0, 0, 0), -1);
        Check.due("classed", x.classed(0, 0, 0, 0), -1);
        Check.due("nearest", x.nearest(0, 0, 0, 0), -1);
        Check.due("payer", x.payer(0, 0, 0, 0), -1);
        Check.due("rate", x.rate(0, 0, 0, 0), -1);
        Check.due("counted", x.counted(0, 0, 0, 0, 0), -1);
        Check.due("worth", x.worth(0, 0, 0, 0), 0);
        Check.due("pay", x.pay(0, 0, 0), -1);
        Check.due("halves", x.halves(0, 0, 0, 0), -1);
        Check.due("owed", x.owed(0, 0, 0), 0);
        Check.due("shorted", x.shorted(0, 0, 0, false, 0), -1);
        Check.due("tried", x.tried(-1, 0, 0, 0, 0, 0, 0), -1);
        Check.due("turned", x.turned(0, 0), -1);
        for (int task = 0; task < 16; task++) {
            Check.due("part", x.part(task, 0), -1);
            Check.due("part", x.part(task, 1), -1);
        }
    }

    /** What one object is told is not told to another. */
    private static void objectsShareNothing() {
        WageCourt x = new WageCourt();
        x.town();
        x.firm(0, 0);
        x.person(0, 0, 0);
        x.weight(0, 9);
        x.value(0, 7);
        x.parting(1, 1, 0);
        Check.tell(x, "award a from 0;");
        Check.due("a fault", Check.read(x, "b"), 1);
        x.feed(0, 0, 0, 0, 0);
        WageCourt other = new WageCourt();
        for (int what = 0; what <= 6; what++) {
            Check.due("count " + what + " of a second object", other.count(what), 0);
        }
        Check.due("place in a second object", other.place(), -1);
        Check.due("part in a second object", other.part(0, 1), -1);
        Check.due("named in a second object", Check.named(other, "a"), -1);
    }

    private static void lastOf512Calls() {
        Check.holds("What it is", "An object is used for at most 512 calls after it has been made;");
        WageCourt x = new WageCourt();
        x.town();
        x.firm(0, 0);
        x.person(0, 0, 0);
        int calls = 3;
        String text = "award a from 0; binds if 0 == 0; class c tasks 1 margin 200;";
        Check.due("read", Check.read(x, text), 0);
        calls += text.length() / 20 + (text.length() % 20 == 0 ? 0 : 1) + 1;
        x.row(0, 0, 48);
        calls++;
        for (int half = 0; half < 48; half++) {
            Check.due("cell", x.cell(half, 1), true);
            calls++;
        }
        while (calls < 511) {
            Check.due("pay, asked again", x.pay(0, 0, 2), 4800);
            calls++;
        }
        Check.due("turned, the 512th call", x.turned(1, 2), 0);
    }

    private static void towns() {
        Check.holds("Terms", "THE LAND: TOWNS, 5 at most;");
        Check.holds("Promise 7", "A TOWN: its number; NONE: 5 are there.");
        WageCourt x = new WageCourt();
        for (int i = 0; i < 5; i++) {
            Check.due("towns ahead of town " + i, x.count(0), i);
            Check.due("firm in the town that is still to come", x.firm(i, 0), -1);
            Check.due("town", x.town(), i);
            Check.due("firm in the town that has come", x.firm(i, 0), i);
        }
        Check.due("a sixth town", x.town(), -1);
        Check.due("a sixth town again", x.town(), -1);
        Check.due("towns", x.count(0), 5);
        Check.due("firm in the sixth town", x.firm(5, 0), -1);
        Twins.refused("a sixth town", c -> towns(c, 5), -1, WageCourt::town);
    }

    private static void towns(WageCourt x, int towns) {
        for (int i = 0; i < towns; i++) {
            x.town();
        }
    }

    private static void firms() {
        Check.holds("Terms", "FIRMS, 8 at most, each in a TOWN, with a TRADE (0 .. 7);");
        Check.holds("Promise 8", "A FIRM: its number. NONE, and nothing happens: 8 are there, no such TOWN, TRADE.");
        Twins.refused("a firm without any town", c -> { }, -1, c -> c.firm(0, 0));
        int[][] wrong = {{-1, 0}, {2, 0}, {5, 0}, {Integer.MIN_VALUE, 0}, {Integer.MAX_VALUE, 0}, {0, -1}, {0, 8},
            {1, Integer.MIN_VALUE}, {1, Integer.MAX_VALUE}};
        for (int[] w : wrong) {
            Twins.refused("a firm of town " + w[0] + ", trade " + w[1], c -> towns(c, 2), -1, c -> c.firm(w[0], w[1]));
        }
        WageCourt x = new WageCourt();
        towns(x, 2);
        int[][] right = {{0, 0}, {1, 7}, {0, 7}, {1, 0}, {0, 1}, {0, 6}, {1, 1}, {1, 6}};
        for (int i = 0; i < 8; i++) {
            Check.due("wrong firm on the way", x.firm(2, 0), -1);
            Check.due("firms ahead of firm " + i, x.count(1), i);
            Check.due("firm", x.firm(right[i][0], right[i][1]), i);
        }
        Check.due("a ninth firm", x.firm(0, 0), -1);
        Check.due("a ninth firm that is wrong", x.firm(9, 9), -1);
        Check.due("firms", x.count(1), 8);
        Check.due("person at the ninth firm", x.person(8, 0, 0), -1);
        Check.due("person at the eighth firm", x.person(7, 0, 0), 0);
        Twins.refused("a ninth firm", c -> firms(c, 8), -1, c -> c.firm(0, 0));
    }

    private static void firms(WageCourt x, int firms) {
        x.town();
        for (int i = 0; i < firms; i++) {
            x.firm(0, 0);
        }
    }

    /** TOWN and TRADE of each FIRM are those that it was made with, the first and the last ones too. */
    private static void firmsShown() {
        Check.holds("Terms", "all numbered from 0 on.");
        WageCourt x = new WageCourt();
        towns(x, 5);
        for (int firm = 0; firm < 8; firm++) {
            Check.due("firm", x.firm(firm % 5, 7 - firm), firm);
        }
        Check.tell(x, "award a from 0; class c tasks 0 margin 1000 * trade + 100 * town + who;");
        for (int firm = 0; firm < 8; firm++) {
            Check.due("trade, town, who of firm " + firm, x.margin(0, 1, 0, firm, 1),
                    1000 * (7 - firm) + 100 * (firm % 5) + firm);
        }
    }

    private static void people() {
        Check.holds("Terms", "PEOPLE, 10 at most, each at a FIRM, with TICKETS (bits 0 .. 7) and YEARS (0 .. 40);");
        Check.holds("Promise 9", "A PERSON: its number. NONE, and nothing happens: 10 are there, no such FIRM, TICKETS"
                + " (0 .. 255), YEARS.");
        Twins.refused("a person without any firm", WageCourt::town, -1, c -> c.person(0, 0, 0));
        int[][] wrong = {{-1, 0, 0}, {2, 0, 0}, {Integer.MIN_VALUE, 0, 0}, {Integer.MAX_VALUE, 0, 0}, {0, -1, 0},
            {0, 256, 0}, {0, Integer.MIN_VALUE, 0}, {0, Integer.MAX_VALUE, 0}, {0, 0, -1}, {0, 0, 41},
            {0, 0, Integer.MIN_VALUE}, {0, 0, Integer.MAX_VALUE}};
        for (int[] w : wrong) {
            Twins.refused("a person at firm " + w[0] + ", tickets " + w[1] + ", years " + w[2], c -> firms(c, 2), -1,
                    c -> c.person(w[0], w[1], w[2]));
        }
        WageCourt x = new WageCourt();
        firms(x, 2);
        int[][] right = {{0, 0, 0}, {1, 255, 40}, {0, 1, 1}, {1, 254, 39}, {0, 128, 20}};
        for (int i = 0; i < 10; i++) {
            Check.due("did of who is still to come", x.did(i, 0, 0, 0), -3);
            Check.due("people ahead of person " + i, x.count(2), i);
            Check.due("person", x.person(right[i % 5][0], right[i % 5][1], right[i % 5][2]), i);
            Check.due("did of who has come", x.did(i, 0, 0, 0), -1);
        }
        Check.due("an eleventh person", x.person(0, 0, 0), -1);
        Check.due("people", x.count(2), 10);
        Check.due("row of the eleventh person", x.row(10, 0, 1), -1);
        Check.due("row of the tenth person", x.row(9, 0, 1), 0);
        Twins.refused("an eleventh person", c -> people(c, 10), -1, c -> c.person(0, 0, 0));
    }

    private static void people(WageCourt x, int people) {
        firms(x, 1);
        for (int i = 0; i < people; i++) {
            x.person(0, 0, 0);
        }
    }

    /** FIRM, TICKETS and YEARS of each PERSON are those that it was made with. */
    private static void peopleShown() {
        WageCourt x = new WageCourt();
        firms(x, 8);
        int[] tickets = {0, 255, 1, 128, 127, 254, 64, 2, 8, 16};
        int[] years = {0, 40, 39, 1, 20, 2, 3, 38, 40, 0};
        for (int i = 0; i < 10; i++) {
            x.person(i % 8, tickets[i], years[i]);
        }
        StringBuilder text = new StringBuilder("award a from 0; binds if 0 == 0; class c tasks 0 margin 1;");
        for (int bit = 0; bit < 8; bit++) {
            text.append(" extra t").append((char) ('a' + bit)).append(" 1 if ticket ").append(bit).append(";");
        }
        Check.tell(x, text + "extra y 10 * years; extra w 100 * who if 0 == 0;");
        for (int i = 0; i < 10; i++) {
            int fact = Check.row(x, i, 0, 0, 0);
            long due = 100 + 200L * (Integer.bitCount(tickets[i]) + 10 * years[i] + 100 * (i % 8));
            Check.due("worth of person " + i, x.worth(i, 0, 0, fact + 1), due);
            int first = tickets[i] == 0 ? 10 : 2 + Integer.numberOfTrailingZeros(tickets[i]);
            Check.due("first ticket of person " + i, x.counted(i, 0, 0, 0, fact + 1), first);
        }
    }

    private static void days() {
        Check.holds("Terms", "DAYS are 0 .. 139; the WEEK of a DAY is it by 7, its WEEKDAY the rest, its QUARTER it by"
                + " 35.");
        WageCourt x = new WageCourt();
        people(x, 1);
        for (int quarter = 0; quarter < 4; quarter++) {
            x.price(0, quarter, 0, 10 + quarter);
        }
        Check.tell(x, "award a from 0; binds if 0 == 0; class c tasks 1 margin 0; extra e 100 + 10 * weekday;");
        Check.due("row of day -1", x.row(0, -1, 1), -1);
        Check.due("row of day 140", x.row(0, 140, 1), -1);
        int[] days = {0, 1, 6, 7, 13, 14, 34, 35, 69, 70, 104, 105, 132, 133, 138, 139};
        int[] weeks = {0, 0, 0, 1, 1, 2, 4, 5, 9, 10, 14, 15, 18, 19, 19, 19};
        int[] weekdays = {0, 1, 6, 0, 6, 0, 6, 0, 6, 0, 6, 0, 6, 0, 5, 6};
        int[] quarters = {0, 0, 0, 0, 0, 0, 0, 1, 1, 2, 2, 3, 3, 3, 3, 3};
        for (int i = 0; i < days.length; i++) {
            int before = x.count(3);
            Check.row(x, 0, days[i], 0, 1);
            int n = x.count(3);
            Check.due("week of day " + days[i], x.turned(before, n), weeks[i]);
            Check.due("weekday and quarter of day " + days[i], x.worth(0, days[i], 0, n),
                    100 * (10 + quarters[i]) + 200 * (100 + 10 * weekdays[i]));
            Check.due("did on day " + days[i], x.did(0, days[i], 0, n), 1);
        }
        Check.due("did on day -1", x.did(0, -1, 0, x.count(3)), -3);
        Check.due("did on day 140", x.did(0, 140, 0, x.count(3)), -3);
    }

    private static void halves() {
        Check.holds("Terms", "HALVES (half hours) of a DAY are 0 .. 47.");
        WageCourt x = new WageCourt();
        people(x, 1);
        x.row(0, 0, 48);
        Check.due("cell -1", x.cell(-1, 1), false);
        Check.due("cell 0", x.cell(0, 1), true);
        Check.due("cell 47", x.cell(47, 2), true);
        Check.due("cell 48", x.cell(48, 1), false);
        Check.due("did in half -1", x.did(0, 0, -1, 1), -3);
        Check.due("did in half 0", x.did(0, 0, 0, 1), 1);
        Check.due("did in half 1", x.did(0, 0, 1, 1), -1);
        Check.due("did in half 46", x.did(0, 0, 46, 1), -1);
        Check.due("did in half 47", x.did(0, 0, 47, 1), 2);
        Check.due("did in half 48", x.did(0, 0, 48, 1), -3);
        Check.due("halves with a task", x.halves(0, 0, 1, 0), 2);
    }

    private static void tasks() {
        Check.holds("Terms", "TASKS are 0 .. 15, each with MARKS (bits 0 .. 7; none at first).");
        WageCourt x = new WageCourt();
        people(x, 1);
        Check.tell(x, "award a from 0; binds if 0 == 0; class c tasks 0 margin 100; class d tasks 15 margin 200;");
        Check.row(x, 0, 0, 0, 0, 15, 14, 1, 16, -1);
        Check.due("cell of task -2", x.cell(9, -2), false);
        Check.due("cell of task 17", x.cell(9, 17), false);
        Check.due("halves with a task", x.halves(0, 0, 2, 0), 4);
        Check.due("class of task 0", x.classed(0, 0, 0, 2), 1);
        Check.due("class of task 15", x.classed(0, 0, 1, 2), 2);
        Check.due("class of task 14", x.classed(0, 0, 2, 2), -1);
        Check.due("nearest to task 14 with no marks at first", x.nearest(0, 0, 2, 2), -1);
        Check.due("nearest to task 1 with no marks at first", x.nearest(0, 0, 3, 2), -1);
        x.marks(14, 0xff);
        Check.due("nearest with no marks of the others at first", x.nearest(0, 0, 2, 2), -1);
        for (int bit = 0; bit < 8; bit++) {
            x.marks(15, 1 << bit);
            Check.due("nearest by mark " + bit, x.nearest(0, 0, 2, 2), 2);
            x.marks(14, 0xff - (1 << bit));
            Check.due("nearest by all marks but " + bit, x.nearest(0, 0, 2, 2), -1);
            x.marks(14, 0xff);
        }
    }

    /** A HALF of TASK 9 and one of TASK 0 that no class has, and a class with TASK 15. */
    private static void marked(WageCourt x) {
        people(x, 1);
        x.marks(9, 3);
        x.marks(15, 2);
        Check.tell(x, "award a from 0; binds if 0 == 0; class c tasks 15 margin 100;");
        Check.row(x, 0, 0, 0, 9, 0);
    }

    private static void marks() {
        Check.holds("Promise 10", "MARKS of a TASK become these (0 .. 255): true; false for others.");
        int[][] wrong = {{-1, 0}, {16, 0}, {Integer.MIN_VALUE, 0}, {Integer.MAX_VALUE, 0}, {9, -1}, {9, 256},
            {15, Integer.MIN_VALUE}, {15, Integer.MAX_VALUE}, {25, 0}, {-7, 0}};
        for (int[] w : wrong) {
            Twins.refused("marks(" + w[0] + ", " + w[1] + ")", EdgeLandTest::marked, false,
                    c -> Twins.bit(c.marks(w[0], w[1])));
        }
        WageCourt x = new WageCourt();
        int[] bits = {0, 1, 254, 255};
        for (int v : bits) {
            Check.due("marks of task 0, " + v, x.marks(0, v), true);
            Check.due("marks of task 15, " + v, x.marks(15, v), true);
        }
    }

    private static void marksShown() {
        WageCourt x = new WageCourt();
        marked(x);
        Check.due("nearest by the marks told", x.nearest(0, 0, 0, 2), 1);
        Check.due("nearest without marks", x.nearest(0, 0, 1, 2), -1);
        x.marks(0, 255);
        Check.due("nearest by all marks", x.nearest(0, 0, 1, 2), 1);
        x.marks(15, 0);
        Check.due("nearest when the marks have gone", x.nearest(0, 0, 0, 2), -1);
        x.marks(15, 4);
        Check.due("nearest when others have come", x.nearest(0, 0, 0, 2), -1);
        Check.due("nearest when others have come", x.nearest(0, 0, 1, 2), 1);
    }

    private static void goods() {
        Check.holds("Terms", "GOODS are 0 .. 3, with a WEIGHT (0 .. 9; 1 at first).");
        WageCourt x = new WageCourt();
        x.town();
        Check.due("price of good -1", x.price(0, 0, -1, 1), -1);
        Check.due("price of good 4", x.price(0, 0, 4, 1), -1);
        Check.due("price of good 0", x.price(0, 0, 0, 1), 0);
        Check.due("price of good 3", x.price(0, 0, 3, 10), 1);
        Check.due("least with weights 1", x.least(0, 0, 2), 11);
        Check.due("weight 0", x.weight(0, 0), true);
        Check.due("least with weight 0", x.least(0, 0, 2), 10);
        Check.due("weight 9", x.weight(3, 9), true);
        Check.due("least with weight 9", x.least(0, 0, 2), 90);
        Check.due("weight 1", x.weight(0, 1), true);
        Check.due("least with weight 1 again", x.least(0, 0, 2), 91);
    }

    private static void priced(WageCourt x) {
        x.town();
        for (int good = 0; good < 4; good++) {
            x.price(0, 0, good, 1 + good);
        }
    }

    private static void weights() {
        Check.holds("Promise 11", "WEIGHT of a GOOD becomes v: true; false for others.");
        int[][] wrong = {{-1, 2}, {4, 2}, {Integer.MIN_VALUE, 2}, {Integer.MAX_VALUE, 2}, {0, -1}, {3, 10},
            {0, Integer.MIN_VALUE}, {3, Integer.MAX_VALUE}};
        for (int[] w : wrong) {
            Twins.refused("weight(" + w[0] + ", " + w[1] + ")", EdgeLandTest::priced, false,
                    c -> Twins.bit(c.weight(w[0], w[1])));
        }
        WageCourt x = new WageCourt();
        priced(x);
        int[] right = {0, 1, 8, 9};
        for (int good = 0; good < 4; good++) {
            for (int v : right) {
                Check.due("weight", x.weight(good, v), true);
                Check.due("least with weight " + v + " of good " + good, x.least(0, 0, 4), 10 + (v - 1) * (1 + good));
            }
            x.weight(good, 1);
        }
    }

    private static void facts() {
        Check.holds("Terms", "FACTS, numbered from 0 on, 160 at most; as KNOWN by n the first n of them are.");
        WageCourt x = new WageCourt();
        firms(x, 1);
        x.person(0, 0, 0);
        for (int i = 0; i < 159; i++) {
            Check.due("paid", x.paid(0, 0, 1), i);
        }
        Check.due("facts", x.count(3), 159);
        Check.due("kind of the fact that is still to come", x.kind(159), -1);
        Check.due("owed by 160", x.owed(0, 0, 160), 0);
        Check.due("paid, the 160th fact", x.paid(0, 0, 1), 159);
        Check.due("kind of the last fact", x.kind(159), 9);
        Check.due("paid, a 161st fact", x.paid(0, 0, 1), -1);
        Check.due("facts", x.count(3), 160);
        Check.due("kind of the fact that has not come", x.kind(160), -1);
        int[] known = {0, 1, 2, 158, 159, 160};
        for (int n : known) {
            Check.due("owed by " + n, x.owed(0, 0, n), -n);
        }
        Check.due("owed by 161", x.owed(0, 0, 161), 0);
        Check.due("owed by -1", x.owed(0, 0, -1), 0);
        Check.due("did by 160", x.did(0, 0, 0, 160), -1);
        Check.due("did by 161", x.did(0, 0, 0, 161), -3);
        Check.due("did by -1", x.did(0, 0, 0, -1), -3);
    }

    private static void kindsOfFacts() {
        Check.holds("Terms", "They are TEXTS (II), PRICES, WETS, ROWS, LOGS, ANSWERS, PAYMENTS, STAYS.");
        WageCourt x = new WageCourt();
        people(x, 1);
        Check.due("a text that is none", Check.read(x, "award a"), 1);
        Check.due("facts behind it", x.count(3), 0);
        Check.due("the text's fact", Check.tell(x, "award a from 0;"), 0);
        Check.due("price", x.price(0, 0, 0, 0), 1);
        Check.due("wet", x.wet(0, 0, 0), 2);
        Check.due("row", x.row(0, 0, 1), 3);
        Check.due("cell", x.cell(0, 1), true);
        Check.due("log", x.log(0, 0, 0), 4);
        Check.due("answer", x.answer(0, 0, 0), 5);
        Check.due("paid", x.paid(0, 0, 0), 6);
        Check.due("stay", x.stay(0, 0, 1), 7);
        x.marks(0, 0);
        x.weight(0, 0);
        x.value(0, 0);
        x.apart(0, 1, true);
        x.parting(1, 1, 0);
        x.town();
        x.firm(0, 0);
        x.person(0, 0, 0);
        Check.due("facts", x.count(3), 8);
    }

    private static void counts() {
        Check.holds("Promise 46", "0 TOWNS, 1 FIRMS, 2 PEOPLE, 3 FACTS, 4 TEXTS, 5 NAMES, 6 bytes on the tape. NONE for"
                + " others.");
        WageCourt x = new WageCourt();
        int[] others = {-1, 7, 8, Integer.MIN_VALUE, Integer.MAX_VALUE};
        for (int what : others) {
            Check.due("count of " + what, x.count(what), -1);
        }
        int[] due = new int[7];
        for (int what = 0; what < 7; what++) {
            tellOne(x, what);
            due[what]++;
            due[3] += what == 4 || what == 5 ? 1 : 0;
            due[4] += what == 5 ? 1 : 0;
            due[5] += what == 4 ? 1 : 0;
            for (int other = 0; other < 7; other++) {
                Check.due("count of " + other + " behind " + what, x.count(other), due[other]);
            }
        }
    }

    /** Of the first four one more each; with 4 a TEXT and its NAME, with 5 a TEXT with one NAME more. */
    private static void tellOne(WageCourt x, int what) {
        switch (what) {
            case 0 -> x.town();
            case 1 -> x.firm(0, 0);
            case 2 -> x.person(0, 0, 0);
            case 3 -> x.wet(0, 0, 0);
            case 4 -> Check.tell(x, "award a from 0;");
            case 5 -> Check.tell(x, "vary a from 0; strike b;");
            default -> {
                x.feed(0, 0, 0, 0, 0);
                x.back(19);
            }
        }
    }

    /** All that can be full is full. */
    private static void fullCounts() {
        WageCourt x = new WageCourt();
        towns(x, 5);
        for (int i = 0; i < 8; i++) {
            x.firm(4, 7);
        }
        for (int i = 0; i < 10; i++) {
            x.person(7, 255, 40);
        }
        StringBuilder text = new StringBuilder("award aa from 0;");
        for (int i = 1; i < 60; i++) {
            text.append(i % 5 == 1 ? (i == 1 ? "load " : ";load ") : " bars ").append((char) ('a' + i / 26))
                    .append((char) ('a' + i % 26)).append(i % 5 == 1 ? " 1" : "");
        }
        Check.tell(x, text + ";");
        Check.fillTexts(x, 23, "vary aa from 0;");
        Check.fillFacts(x, 160);
        for (int i = 0; i < 100; i++) {
            x.feed(0, 0, 0, 0, 0);
        }
        int[] due = {5, 8, 10, 160, 24, 60, 2000};
        for (int what = 0; what < 7; what++) {
            Check.due("count of " + what + ", full", x.count(what), due[what]);
        }
        Check.due("all is refused", x.town() + x.firm(0, 0) + x.person(0, 0, 0) + x.wet(0, 0, 0) + x.read()
                + x.feed(0, 0, 0, 0, 0), -7);
        for (int what = 0; what < 7; what++) {
            Check.due("count of " + what + ", full still", x.count(what), due[what]);
        }
    }
}
