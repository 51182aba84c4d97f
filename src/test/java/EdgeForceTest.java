/** Boundary cases of III (Terms), and of promises 24 to 27: force, fate, item, margin. */
final class EdgeForceTest {
    private static final int NONE = -1000000;
    private static final int LEAST = Integer.MIN_VALUE;
    private static final int MOST = Integer.MAX_VALUE;

    public static void main(String[] args) {
        fromItsDay();
        stayed();
        atItsFirm();
        forceOfNoSuchOnes();
        ownItemsFirst();
        byDaysThenFacts();
        takesThePlace();
        chooseAndRound();
        strikes();
        ambitEdges();
        ambitWithoutClaims();
        ambitOfTheLastClaims();
        ambitBesideOtherFacts();
        ambitOfTheAwardAndName();
        ambitToldAhead();
        fallsAlone();
        withoutChooseAndRound();
        agreesAlone();
        marginByVars();
        ties();
        tiesThatComeBack();
        held();
        years();
        fates();
        fateOfNoSuchOnes();
        itemsAsked();
        itemOfNoSuchOnes();
        marginOfNoSuchOnes();
        Check.end();
    }

    /** Two towns; firm 0 of trade 2 in the first, firm 1 of trade 3 in the second; a person at each. */
    private static WageCourt court() {
        WageCourt x = new WageCourt();
        x.town();
        x.town();
        x.firm(0, 2);
        x.firm(1, 3);
        x.person(0, 0, 7);
        x.person(1, 0, 0);
        return x;
    }

    private static WageCourt court(String... texts) {
        WageCourt x = court();
        for (String text : texts) {
            Check.tell(x, text);
        }
        return x;
    }

    private static void fromItsDay() {
        Check.holds("Terms", "IN FORCE. A TEXT is in force on a DAY from its 'from' DAY on,");
        Check.holds("Promise 24", "1 if a TEXT is in force on a DAY at a FIRM, as KNOWN by n, else 0;");
        String[] heads = {"award b", "vary a", "order a firm 0", "agree a firm 0"};
        int[] days = {0, 1, 69, 138, 139};
        for (String head : heads) {
            for (int from : days) {
                WageCourt x = court("award a from 70;", head + " from " + from + ";");
                int[] asked = {0, from - 1, from, from + 1, 139};
                for (int day : asked) {
                    int due = day < 0 || day > 139 ? -1 : day >= from ? 1 : 0;
                    Check.due("force of " + head + " from " + from + " on day " + day, x.force(1, day, 0, 2), due);
                }
            }
        }
    }

    private static void stayed() {
        Check.holds("Terms", "if no STAY (KNOWN) of it has that DAY;");
        String[] heads = {"award b", "vary a", "order a firm 0", "agree a firm 0"};
        for (String head : heads) {
            WageCourt x = court("award a from 0;", head + " from 3;");
            int[][] stays = {{0, 4}, {6, 8}, {7, 10}, {10, 11}, {139, 140}};
            for (int i = 0; i < stays.length; i++) {
                Check.due("stay", x.stay(1, stays[i][0], stays[i][1]), 2 + i);
            }
            int[] days = {0, 2, 3, 4, 5, 6, 7, 8, 9, 10, 11, 138, 139};
            for (int n = 2; n <= 7; n++) {
                for (int day : days) {
                    int due = day >= 3 ? 1 : 0;
                    for (int i = 0; i < n - 2; i++) {
                        due = day >= stays[i][0] && day < stays[i][1] ? 0 : due;
                    }
                    Check.due("force of " + head + " on day " + day + " by " + n, x.force(1, day, 0, n), due);
                    Check.due("force of what is not stayed", x.force(0, day, 0, n), 1);
                }
            }
        }
        WageCourt x = court("award a from 0; class c tasks 1 margin 1;", "vary a from 0; class c tasks 1 margin 2;");
        x.stay(0, 5, 6);
        x.stay(1, 7, 8);
        Check.due("force of a vary whose award is stayed", x.force(1, 5, 0, 4), 1);
        Check.due("margin while the award is stayed", x.margin(0, 1, 5, 0, 4), NONE);
        Check.due("margin while nothing is stayed", x.margin(0, 1, 6, 0, 4), 2);
        Check.due("margin while the vary is stayed", x.margin(0, 1, 7, 0, 4), 1);
        Check.due("margin behind it", x.margin(0, 1, 8, 0, 4), 2);
        Check.due("margin while the stay is not known", x.margin(0, 1, 7, 0, 3), 2);
        x.stay(0, 0, 140);
        for (int day = 0; day < 140; day++) {
            Check.due("force while it is stayed throughout", x.force(0, day, 0, 5), 0);
        }
    }

    private static void atItsFirm() {
        Check.holds("Terms", "an order, agree only at its FIRM.");
        WageCourt x = court("award a from 0; class c tasks 1 margin 1;", "order a firm 0 from 0; class c tasks 1 margin 2;",
                "order a firm 1 from 0; class c tasks 1 margin 3;", "agree a firm 0 from 0;", "agree a firm 1 from 0;",
                "order a firm 7 from 0; class c tasks 1 margin 9;", "agree a firm 7 from 0;", "vary a from 0;");
        int[][] due = {{1, 1}, {1, 0}, {0, 1}, {1, 0}, {0, 1}, {0, 0}, {0, 0}, {1, 1}};
        for (int text = 0; text < 8; text++) {
            Check.due("force of " + text + " at firm 0", x.force(text, 0, 0, 8), due[text][0]);
            Check.due("force of " + text + " at firm 1", x.force(text, 0, 1, 8), due[text][1]);
            Check.due("force of " + text + " at a firm that is still to come", x.force(text, 0, 7, 8), -1);
        }
        Check.due("margin at firm 0", x.margin(0, 1, 0, 0, 8), 2);
        Check.due("margin at firm 1", x.margin(0, 1, 0, 1, 8), 3);
        for (int i = 2; i < 8; i++) {
            x.firm(0, 0);
        }
        Check.due("force at the firm that has come", x.force(5, 0, 7, 8), 1);
        Check.due("force of the agree at it", x.force(6, 0, 7, 8), 1);
        Check.due("force of it at another", x.force(5, 0, 6, 8), 0);
        Check.due("margin at firm 7", x.margin(0, 1, 0, 7, 8), 9);
        Check.due("margin at firm 6", x.margin(0, 1, 0, 6, 8), 1);
    }

    /** Wrong ones of TEXT, DAY, FIRM, n; FACT 1 of three is the award. */
    private static int[][] wrongOnes() {
        return new int[][] {{0, 0, 0, 3}, {2, 0, 0, 3}, {3, 0, 0, 3}, {-1, 0, 0, 3}, {LEAST, 0, 0, 3}, {MOST, 0, 0, 3},
            {1, -1, 0, 3}, {1, 140, 0, 3}, {1, LEAST, 0, 3}, {1, MOST, 0, 3}, {1, 0, -1, 3}, {1, 0, 2, 3}, {1, 0, 8, 3},
            {1, 0, LEAST, 3}, {1, 0, MOST, 3}, {1, 0, 0, 0}, {1, 0, 0, 1}, {1, 0, 0, 4}, {1, 0, 0, -1}, {1, 0, 0, LEAST},
            {1, 0, 0, MOST}, {1, 0, 0, 161}};
    }

    private static WageCourt withOneAward() {
        WageCourt x = court();
        x.wet(0, 0, 0);
        Check.tell(x, "award a from 0; class c tasks 1 margin 5;");
        x.wet(0, 0, 0);
        return x;
    }

    private static void forceOfNoSuchOnes() {
        Check.holds("Promise 24", "NONE: no such ones (among the first n).");
        WageCourt x = withOneAward();
        for (int[] w : wrongOnes()) {
            Check.due("force" + java.util.Arrays.toString(w), x.force(w[0], w[1], w[2], w[3]), -1);
        }
        Check.due("force by 2", x.force(1, 0, 0, 2), 1);
        Check.due("force by 3", x.force(1, 139, 1, 3), 1);
    }

    /** What stands: of each its what 0, its NAME, its TEXT. */
    private static void stands(WageCourt x, int text, int day, int firm, int[]... due) {
        int n = x.count(3);
        for (int k = 0; k < due.length; k++) {
            for (int what = 0; what < 3; what++) {
                Check.due("item " + k + ", what " + what + ", day " + day, x.item(text, day, firm, k, n, what), due[k][what]);
            }
        }
        Check.due("item behind all, day " + day, x.item(text, day, firm, due.length, n, 1), -1);
    }

    private static int[] one(int kind, int name, int teller) {
        return new int[] {kind, name, teller};
    }

    private static void ownItemsFirst() {
        Check.holds("Terms", "AN AWARD as it is on a DAY at a FIRM: its own ITEMS in their order, then, of all its varies and"
                + " orders that are in force there,");
        WageCourt x = court("award a from 5; load b 1; class c tasks 1 margin 1; extra d 1;",
                "vary a from 0; class c tasks 1 margin 2; load e 1;", "order a firm 0 from 9; load f 1;",
                "order a firm 1 from 5; load g 1;", "award h from 0; load i 1;", "vary h from 0; load j 1;",
                "agree a firm 0 from 0; load k 1;");
        stands(x, 0, 4, 0);
        stands(x, 0, 5, 0, one(1, 1, 0), one(0, 2, 1), one(2, 3, 0), one(1, 4, 1));
        stands(x, 0, 8, 0, one(1, 1, 0), one(0, 2, 1), one(2, 3, 0), one(1, 4, 1));
        stands(x, 0, 9, 0, one(1, 1, 0), one(0, 2, 1), one(2, 3, 0), one(1, 4, 1), one(1, 5, 2));
        stands(x, 0, 139, 1, one(1, 1, 0), one(0, 2, 1), one(2, 3, 0), one(1, 4, 1), one(1, 6, 3));
        Check.due("item as known by 1", x.item(0, 5, 0, 1, 1, 2), 0);
        Check.due("item as known by 2", x.item(0, 5, 0, 1, 2, 2), 1);
        Check.due("item behind all as known by 1", x.item(0, 5, 0, 3, 1, 2), -1);
        WageCourt empty = court("award a from 0;", "award b from 0; load c 1;", "vary b from 0; strike c;");
        stands(empty, 0, 0, 0);
        stands(empty, 1, 0, 0);
        Check.due("item ahead of the strike", empty.item(1, 0, 0, 0, 2, 1), 2);
    }

    private static void byDaysThenFacts() {
        Check.holds("Terms", "by their 'from' DAYS, of one DAY by FACTS, each ITEM in turn:");
        WageCourt x = court("award a from 0; class c tasks 1 margin 1;", "vary a from 5; class c tasks 1 margin 2;",
                "order a firm 0 from 4; class c tasks 1 margin 3;", "vary a from 4; class c tasks 1 margin 4;",
                "order a firm 0 from 5; class c tasks 1 margin 5;", "order a firm 1 from 6; class c tasks 1 margin 6;",
                "vary a from 0; class c tasks 1 margin 7;");
        int[][] due = {{0, 7, 7}, {3, 7, 7}, {4, 4, 4}, {5, 5, 2}, {6, 5, 6}, {139, 5, 6}};
        for (int[] d : due) {
            Check.due("margin at firm 0 on day " + d[0], x.margin(0, 1, d[0], 0, 7), d[1]);
            Check.due("margin at firm 1 on day " + d[0], x.margin(0, 1, d[0], 1, 7), d[2]);
        }
        int[] byFact = {1, 2, 2, 2, 5};
        for (int n = 1; n <= 5; n++) {
            Check.due("margin on day 9 by " + n, x.margin(0, 1, 9, 0, n), byFact[n - 1]);
        }
        WageCourt y = court("award a from 0; load b 1;", "vary a from 3; strike b; load c 1; strike c; load b 2;",
                "vary a from 2; load c 3; load d 4;");
        stands(y, 0, 1, 0, one(1, 1, 0));
        stands(y, 0, 2, 0, one(1, 1, 0), one(1, 2, 2), one(1, 3, 2));
        stands(y, 0, 3, 0, one(1, 3, 2), one(1, 1, 1));
    }

    private static void takesThePlace() {
        Check.holds("Terms", "class, load, extra: it takes the place of the one of that NAME, or comes behind all;");
        WageCourt x = court("award a from 0; class b tasks 1 margin 1; load c 1; extra d 1; class e tasks 2 margin 2;",
                "vary a from 1; extra b 1;", "vary a from 2; class c tasks 3 margin 3;", "vary a from 3; load d 5;",
                "vary a from 4; class e tasks 5 margin 5;", "vary a from 5; load f 1; load a 1;",
                "vary a from 6; strike b; class b tasks 6 margin 6; load f 2;");
        stands(x, 0, 0, 0, one(0, 1, 0), one(1, 2, 0), one(2, 3, 0), one(0, 4, 0));
        stands(x, 0, 1, 0, one(2, 1, 1), one(1, 2, 0), one(2, 3, 0), one(0, 4, 0));
        stands(x, 0, 2, 0, one(2, 1, 1), one(0, 2, 2), one(2, 3, 0), one(0, 4, 0));
        stands(x, 0, 3, 0, one(2, 1, 1), one(0, 2, 2), one(1, 3, 3), one(0, 4, 0));
        stands(x, 0, 4, 0, one(2, 1, 1), one(0, 2, 2), one(1, 3, 3), one(0, 4, 4));
        stands(x, 0, 5, 0, one(2, 1, 1), one(0, 2, 2), one(1, 3, 3), one(0, 4, 4), one(1, 5, 5), one(1, 0, 5));
        stands(x, 0, 6, 0, one(0, 2, 2), one(1, 3, 3), one(0, 4, 4), one(1, 5, 6), one(1, 0, 5), one(0, 1, 6));
        Check.due("margin of a class that an extra took the place of", x.margin(0, 1, 1, 0, 7), NONE);
        Check.due("margin of a class that took a load's place", x.margin(0, 2, 2, 0, 7), 3);
        Check.due("margin of a class that took a class's place", x.margin(0, 4, 4, 0, 7), 5);
        Check.due("margin of a class behind all", x.margin(0, 1, 6, 0, 7), 6);
        WageCourt own = court("award a from 0; load b 1; class c tasks 1 margin 1; class b tasks 2 margin 2; load c 1;");
        stands(own, 0, 0, 0, one(0, 1, 0), one(1, 2, 0));
    }

    private static void chooseAndRound() {
        Check.holds("Terms", "choose, round: it counts from then on;");
        WageCourt x = court("award a from 0; binds if 0 == 0; choose highest; choose most; round 9; round 5; class c tasks 1"
                + " margin 100; class d tasks 2 margin 200;", "vary a from 7; choose each; round 7;",
                "order a firm 0 from 14; choose highest; round 60; choose most; round 3; round 100;",
                "vary a from 14; round 1;", "vary a from 15; choose highest;");
        int[] days = {0, 7, 14, 15};
        int[] first = {1, 1, 1, 2};
        int[] second = {1, 2, 1, 2};
        for (int i = 0; i < days.length; i++) {
            Check.row(x, 0, days[i], 0, 1, 1, 2);
        }
        int n = x.count(3);
        for (int i = 0; i < days.length; i++) {
            Check.due("class of half 0 on day " + days[i], x.classed(0, days[i], 0, n) == x.item(0, 0, 0, 0, n, 1) ? 1 : 2,
                    first[i]);
            Check.due("class of half 2 on day " + days[i], x.classed(0, days[i], 2, n) == x.item(0, 0, 0, 0, n, 1) ? 1 : 2,
                    second[i]);
        }
        Check.due("pay with round 5", x.pay(0, 0, n), 150);
        Check.due("pay with round 7", x.pay(0, 1, n), 203);
        Check.due("pay with round 1", x.pay(0, 2, n), 150 + 300);
        Check.due("pay with round 100, the last one not known", x.pay(0, 2, 3), 0);
        Check.row(x, 0, 21, 0, 1);
        Check.due("pay of 50 with round 1", x.pay(0, 3, n + 1), 50);
    }

    private static void strikes() {
        Check.holds("Terms", "strike: the one of that NAME goes (it is GONE if there is none);");
        WageCourt x = court("award a from 0; class b tasks 1 margin 1; load c 1; extra d 1; choose most; round 2; over e;",
                "vary a from 1; strike b; strike c; strike d; strike b; strike e; strike a; strike f;",
                "vary a from 2; load c 1; strike c; strike c; class b tasks 1 margin 1;", "order a firm 1 from 1; strike b;");
        stands(x, 0, 0, 0, one(0, 1, 0), one(1, 2, 0), one(2, 3, 0));
        stands(x, 0, 1, 0);
        stands(x, 0, 2, 0, one(0, 1, 2));
        int[] due = {0, 0, 0, 2, 2, 2, 2};
        for (int k = 0; k < due.length; k++) {
            Check.due("fate of strike " + k, x.fate(1, k, 1, 0, 4), due[k]);
        }
        Check.due("fate of a strike behind what it strikes", x.fate(2, 1, 2, 0, 4), 0);
        Check.due("fate of a second one", x.fate(2, 2, 2, 0, 4), 2);
        Check.due("fate of an order's strike behind the vary's", x.fate(3, 0, 1, 1, 4), 2);
        WageCourt y = court("award a from 0; load b 1; load c 1; load d 1;", "vary a from 1; strike b;",
                "vary a from 2; strike d;", "vary a from 3; strike c;");
        stands(y, 0, 1, 0, one(1, 2, 0), one(1, 3, 0));
        stands(y, 0, 2, 0, one(1, 2, 0));
        stands(y, 0, 3, 0);
    }

    /** A vary with that margin, behind a LOG and an ANSWER: what became of it. */
    private static int fateOf(int log, int answer, String margin) {
        WageCourt x = court("award a from 0; class c tasks 1 margin 1;");
        x.log(0, 1, log);
        x.answer(0, 1, answer);
        Check.tell(x, "vary a from 0; margin c is " + margin + ";");
        int fate = x.fate(3, 0, 0, 0, 4);
        int margins = x.margin(0, 1, 0, 0, 4);
        Check.due("whether the margin is the one that is told behind fate " + fate, margins != 1, fate == 0);
        return fate;
    }

    private static void ambitEdges() {
        Check.holds("Terms", "margin NAME is E: the class of that NAME has the margin E from then on, if it is there and IN"
                + " AMBIT: the value of E lies between that of the last LOG and that of the last ANSWER");
        Check.holds("Terms", "both counted;");
        int[][] claims = {{40, 50}, {50, 40}, {0, 9999}, {9999, 0}, {7, 7}, {0, 0}, {9999, 9999}, {6, 7}};
        for (int[] c : claims) {
            int low = Math.min(c[0], c[1]);
            int high = Math.max(c[0], c[1]);
            String[] sums = {"(" + low + " - 1)", "" + low, "(" + low + " + 1)", "(" + high + " - 1)", "" + high,
                "(" + high + " + 1)"};
            int[] values = {low - 1, low, low + 1, high - 1, high, high + 1};
            for (int i = 0; i < sums.length; i++) {
                if (values[i] != 1) {
                    Check.due("fate of " + sums[i] + " between " + c[0] + " and " + c[1], fateOf(c[0], c[1], sums[i]),
                            values[i] >= low && values[i] <= high ? 0 : 3);
                }
            }
        }
        Check.due("fate of a value below 0", fateOf(0, 9999, "0 - 1"), 3);
        Check.due("fate of a value that wraps", fateOf(0, 9999, "8192 * 8192 * 64 + 5"), 0);
        Check.due("fate of a value above 9999", fateOf(0, 9999, "9999 + 9999"), 3);
        Check.due("fate of the greatest int", fateOf(0, 9999, "8192 * 8192 * 32 - 1"), 3);
        Check.due("fate of the least int", fateOf(0, 9999, "8192 * 8192 * 32"), 3);
        Check.due("fate of a division by 0", fateOf(0, 0, "7 / 0 + 4"), 0);
        Check.due("fate of a division by 0", fateOf(1, 9, "7 / 0 + 4"), 3);
    }

    private static void ambitWithoutClaims() {
        WageCourt x = court("award a from 0; class c tasks 1 margin 1;", "vary a from 0; margin c is 5;");
        x.log(0, 1, 5);
        Check.tell(x, "vary a from 0; margin c is 5;");
        x.answer(0, 1, 5);
        Check.tell(x, "vary a from 0; margin c is 5;");
        Check.due("fate with neither", x.fate(1, 0, 0, 0, 6), 3);
        Check.due("fate with a log alone", x.fate(3, 0, 0, 0, 6), 3);
        Check.due("fate with both", x.fate(5, 0, 0, 0, 6), 0);
        x = court("award a from 0; class c tasks 1 margin 1;");
        x.answer(0, 1, 5);
        Check.tell(x, "vary a from 0; margin c is 5; margin c is 0;");
        Check.due("fate with an answer alone", x.fate(2, 0, 0, 0, 3), 3);
        Check.due("fate of 0 with an answer alone", x.fate(2, 1, 0, 0, 3), 3);
    }

    private static void ambitOfTheLastClaims() {
        WageCourt x = court("award a from 0; class c tasks 1 margin 1;");
        int[][] claims = {{0, 10}, {1, 20}, {0, 30}, {1, 25}, {1, 40}};
        int[][] due = {{3, 3, 3, 3, 3}, {0, 0, 3, 3, 3}, {3, 0, 0, 0, 3}, {3, 3, 0, 0, 3}, {3, 3, 3, 0, 0}};
        for (int i = 0; i < claims.length; i++) {
            if (claims[i][0] == 0) {
                x.log(0, 1, claims[i][1]);
            } else {
                x.answer(0, 1, claims[i][1]);
            }
            Check.tell(x, "vary a from 0; margin c is 10; margin c is 20; margin c is 25; margin c is 30; margin c is 40;");
        }
        for (int i = 0; i < claims.length; i++) {
            for (int k = 0; k < 5; k++) {
                Check.due("fate of " + k + " behind claim " + i, x.fate(2 + 2 * i, k, 0, 0, 11), due[i][k]);
            }
        }
    }

    /** FACTS of other kinds with the same numbers in them are no LOGS or ANSWERS. */
    private static void ambitBesideOtherFacts() {
        WageCourt x = court("award a from 0; class b tasks 1 margin 1; class c tasks 1 margin 1;");
        x.answer(0, 1, 5);
        x.price(0, 0, 1, 5);
        x.wet(0, 1, 5);
        x.paid(0, 1, 5);
        x.row(0, 1, 5);
        x.stay(0, 1, 5);
        Check.tell(x, "vary a from 0; margin b is 5;");
        Check.due("fate with an answer alone", x.fate(7, 0, 0, 0, 8), 3);
        x.log(0, 1, 5);
        x.price(0, 0, 1, 9);
        x.stay(0, 1, 9);
        Check.tell(x, "vary a from 0; margin b is 5; margin b is 9;");
        Check.due("fate with both", x.fate(11, 0, 0, 0, 12), 0);
        Check.due("fate of what another fact has", x.fate(11, 1, 0, 0, 12), 3);
        WageCourt y = court("award a from 0; class b tasks 1 margin 1;");
        y.log(0, 1, 5);
        y.price(0, 0, 1, 5);
        Check.tell(y, "vary a from 0; margin b is 5;");
        Check.due("fate with a log alone", y.fate(3, 0, 0, 0, 4), 3);
    }

    private static void ambitOfTheAwardAndName() {
        Check.holds("Terms", "for the award and the NAME");
        WageCourt x = court("award a from 0; class c tasks 1 margin 1; class d tasks 2 margin 1;",
                "award b from 0; class c tasks 1 margin 1;");
        x.log(1, 1, 5);
        x.answer(1, 1, 5);
        x.log(0, 2, 5);
        x.answer(0, 2, 5);
        x.log(0, 0, 5);
        x.answer(0, 0, 5);
        Check.tell(x, "vary a from 0; margin c is 5; margin d is 5;");
        Check.tell(x, "order b firm 0 from 0; margin c is 5; margin d is 5;");
        int[] due = {3, 0, 0, 2};
        for (int i = 0; i < 4; i++) {
            Check.due("fate " + i, x.fate(8 + i / 2, i % 2, 0, 0, 10), due[i]);
        }
        x.log(0, 1, 5);
        x.answer(1, 1, 5);
        Check.tell(x, "vary a from 0; margin c is 5;");
        Check.due("fate with an answer for the other award", x.fate(12, 0, 0, 0, 13), 3);
        x.answer(0, 2, 5);
        Check.tell(x, "vary a from 0; margin c is 5;");
        Check.due("fate with an answer for the other name", x.fate(14, 0, 0, 0, 15), 3);
    }

    private static void ambitToldAhead() {
        Check.holds("Terms", "(KNOWN, and told ahead of the TEXT),");
        WageCourt x = court("award a from 0; class c tasks 1 margin 1;");
        x.log(0, 1, 5);
        Check.tell(x, "vary a from 0; margin c is 5;");
        x.answer(0, 1, 5);
        Check.tell(x, "vary a from 0; margin c is 5;");
        x.answer(0, 1, 90);
        x.log(0, 1, 90);
        Check.due("fate with an answer told behind it", x.fate(2, 0, 0, 0, 7), 3);
        Check.due("fate with both told ahead, the answer just so", x.fate(4, 0, 0, 0, 7), 0);
        Check.due("fate as known by itself alone", x.fate(4, 0, 0, 0, 5), 0);
        Check.due("margin", x.margin(0, 1, 0, 0, 7), 5);
        Check.due("margin by 4", x.margin(0, 1, 0, 0, 4), 1);
        Check.due("margin by 5", x.margin(0, 1, 0, 0, 5), 5);
        Check.tell(x, "vary a from 0; margin c is 5;");
        Check.due("fate with other claims since", x.fate(7, 0, 0, 0, 8), 3);
        x.stay(0, 3, 4);
        Check.due("a log for an award that is stayed", x.log(0, 1, 5), 9);
    }

    private static void fallsAlone() {
        Check.holds("Terms", "else it FALLS, alone.");
        WageCourt x = court("award a from 0; class c tasks 1 margin 1; class d tasks 2 margin 2; load e 1;");
        x.log(0, 1, 10);
        x.answer(0, 1, 20);
        Check.tell(x, "vary a from 0; margin c is 9; margin c is 15; margin c is 21; margin d is 15; margin f is 15;"
                + " margin e is 15; load g 1; strike c; margin c is 15; class c tasks 1 margin 3; margin c is 16;");
        int[] due = {3, 0, 3, 3, 2, 2, 0, 0, 2, 0, 0};
        for (int k = 0; k < due.length; k++) {
            Check.due("fate " + k, x.fate(3, k, 0, 0, 4), due[k]);
        }
        Check.due("margin of c", x.margin(0, 1, 0, 0, 4), 16);
        Check.due("margin of d", x.margin(0, 2, 0, 0, 4), 2);
        WageCourt y = court("award a from 0; class c tasks 1 follows a d plus 1; class d tasks 2 margin 2;");
        y.log(0, 1, 10);
        y.answer(0, 1, 20);
        Check.tell(y, "vary a from 5; margin c is 12;");
        Check.tell(y, "vary a from 6; margin c is 9;");
        Check.tell(y, "vary a from 7; class c tasks 1 follows a d plus 2;");
        int[] margins = {3, 12, 12, 4};
        for (int i = 0; i < 4; i++) {
            Check.due("margin on day " + (4 + i), y.margin(0, 1, 4 + i, 0, 6), margins[i]);
        }
        Check.due("the text that told the class still", y.item(0, 5, 0, 0, 6, 2), 0);
    }

    private static void withoutChooseAndRound() {
        Check.holds("Terms", "Without choose: each; without round: 1.");
        WageCourt x = court("award a from 0; binds if 0 == 0; class c tasks 1 margin 2; class d tasks 2 margin 9;");
        Check.row(x, 0, 0, 0, 1, 1, 2, 1);
        Check.due("class by each", x.classed(0, 0, 0, 2), 1);
        Check.due("class by each", x.classed(0, 0, 2, 2), 2);
        Check.due("pay in whole pence, 7.5", x.pay(0, 0, 2), 8);
        Check.row(x, 0, 7, 0, 1, 1);
        Check.due("pay in whole pence, 2", x.pay(0, 1, 3), 2);
        Check.tell(x, "vary a from 14; choose most; round 60;");
        Check.row(x, 0, 14, 0, 1, 1, 2, 1);
        Check.due("class by most from another day on", x.classed(0, 14, 2, 5), 1);
        Check.due("class by each still, asked behind it", x.classed(0, 0, 2, 5), 2);
        Check.due("pay with the round from that day on", x.pay(0, 2, 5), 0);
        Check.due("pay in whole pence still, asked behind it", x.pay(0, 0, 5), 8);
        Check.due("class by each as known", x.classed(0, 14, 2, 3), -1);
        Check.due("class by each at another firm", x.classed(1, 14, 2, 5), -1);
        WageCourt y = court("award a from 0; binds if 0 == 0;", "agree a firm 0 from 0; binds if 0 == 0; class c tasks 1"
                + " margin 2; class d tasks 2 margin 9;");
        Check.row(y, 0, 0, 0, 1, 1, 2);
        Check.due("rate in an agree without choose", y.rate(0, 0, 0, 3), 2);
        Check.due("rate in an agree without choose", y.rate(0, 0, 2, 3), 9);
    }

    private static void agreesAlone() {
        Check.holds("Terms", "An agree (of that award) has its own ITEMS alone, likewise.");
        WageCourt x = court("award a from 0; class c tasks 1 margin 1; load d 1;",
                "agree a firm 0 from 2; class c tasks 1 margin 5; class e tasks 2 margin 6; extra c 1; class e tasks 3"
                + " margin 7;", "vary a from 0; class c tasks 1 margin 2; strike e; load e 1;",
                "order a firm 0 from 0; strike c;", "agree a firm 0 from 0;");
        stands(x, 1, 2, 0, one(2, 1, 1), one(0, 3, 1));
        stands(x, 1, 139, 0, one(2, 1, 1), one(0, 3, 1));
        stands(x, 1, 1, 0);
        stands(x, 1, 2, 1);
        stands(x, 4, 0, 0);
        stands(x, 0, 2, 0, one(1, 2, 0), one(1, 3, 2));
        Check.due("margin in the agree", x.margin(1, 3, 2, 0, 5), 7);
        Check.due("margin of what an extra took the place of", x.margin(1, 1, 2, 0, 5), NONE);
        Check.due("margin in the agree by 2", x.margin(1, 3, 2, 0, 2), 7);
        for (int k = 0; k < 4; k++) {
            Check.due("fate in the agree", x.fate(1, k, 2, 0, 5), 0);
        }
    }

    private static void marginByVars() {
        Check.holds("Terms", "MARGIN of a class: its E with the VARS least, years, trade, town, who (others 0);");
        String[] vars = {"least", "years", "trade", "town", "who", "task", "weekday", "half", "worked", "week", "wet",
            "rate"};
        int[] first = {30, 0, 2, 0, 0, 0, 0, 0, 0, 0, 0, 0};
        int[] second = {4, 0, 3, 1, 1, 0, 0, 0, 0, 0, 0, 0};
        for (int i = 0; i < vars.length; i++) {
            WageCourt x = court("award a from 0; class c tasks 1 margin " + vars[i] + ";",
                    "agree a firm 1 from 0; class c tasks 1 margin 5 + " + vars[i] + ";");
            x.price(0, 1, 0, 30);
            x.price(1, 1, 3, 4);
            x.wet(0, 36, 9);
            x.wet(1, 36, 9);
            Check.row(x, 0, 36, 0, 1, 1, 1);
            int n = x.count(3);
            Check.due("margin of " + vars[i] + " at firm 0", x.margin(0, 1, 36, 0, n), first[i]);
            Check.due("margin of " + vars[i] + " at firm 1", x.margin(0, 1, 36, 1, n), second[i]);
            Check.due("margin of " + vars[i] + " in an agree", x.margin(1, 1, 36, 1, n), 5 + second[i]);
            Check.due("margin of " + vars[i] + " ahead", x.margin(0, 1, 34, 0, n), i == 0 ? 0 : first[i]);
            Check.due("margin of " + vars[i] + " as known", x.margin(0, 1, 36, 0, 2), i == 0 ? 0 : first[i]);
        }
    }

    private static void ties() {
        Check.holds("Terms", "with follows A C plus E: the MARGIN of the class C of the award A as it is on that DAY at that"
                + " FIRM (0 if the award is not in force, or has it not), and E.");
        WageCourt x = court("award a from 0; class c tasks 1 follows b d plus 1; class e tasks 2 follows b f plus 10; class g"
                + " tasks 3 follows z d plus 100; class h tasks 4 follows a c plus 1000;",
                "award b from 2; class d tasks 1 margin 20 + trade; load f 7;", "order b firm 1 from 3; class d tasks 1 margin"
                + " 50;", "vary b from 4; class f tasks 2 margin 60;", "vary b from 6; strike d;",
                "agree a firm 0 from 0; class i tasks 1 follows b d plus 3; class j tasks 1 follows a i plus 4;");
        x.stay(1, 5, 6);
        int[] names = {1, 4, 6, 8};
        int[][] due = {{1, 10, 100, 1001}, {23, 10, 100, 1023}, {23, 10, 100, 1023}, {23, 70, 100, 1023},
            {1, 10, 100, 1001}, {1, 70, 100, 1001}};
        int[][] atOther = {{1, 10, 100, 1001}, {24, 10, 100, 1024}, {51, 10, 100, 1051}, {51, 70, 100, 1051},
            {1, 10, 100, 1001}, {1, 70, 100, 1001}};
        int[] named = {Check.named(x, "c"), Check.named(x, "e"), Check.named(x, "g"), Check.named(x, "h")};
        for (int day = 1; day <= 6; day++) {
            for (int i = 0; i < names.length; i++) {
                Check.due("margin " + i + " on day " + day, x.margin(0, named[i], day, 0, 7), due[day - 1][i]);
                Check.due("margin " + i + " on day " + day + " at firm 1", x.margin(0, named[i], day, 1, 7),
                        atOther[day - 1][i]);
            }
        }
        Check.due("margin while the award followed is not known", x.margin(0, named[0], 2, 0, 1), 1);
        Check.due("margin while it is known", x.margin(0, named[0], 2, 0, 2), 23);
        Check.due("margin of an agree's class that follows", x.margin(5, Check.named(x, "i"), 2, 0, 7), 25);
        Check.due("margin of one that follows what the award has not", x.margin(5, Check.named(x, "j"), 2, 0, 7), 4);
    }

    private static void tiesThatComeBack() {
        Check.holds("Terms", "Where a tie comes to a class that it has come by already, that one's MARGIN counts as 0.");
        WageCourt x = court("award a from 0; class b tasks 1 follows a b plus 5; class c tasks 1 follows a d plus 1; class d"
                + " tasks 1 follows e c plus 10; class f tasks 1 follows a c plus 1000;",
                "award e from 0; class c tasks 1 follows a c plus 100; class d tasks 1 follows e c plus 7;");
        String[] ofA = {"b", "c", "d", "f"};
        int[] due = {5, 111, 111, 1111};
        for (int i = 0; i < ofA.length; i++) {
            Check.due("margin of " + ofA[i], x.margin(0, Check.named(x, ofA[i]), 0, 0, 2), due[i]);
        }
        Check.due("margin of e's c", x.margin(1, Check.named(x, "c"), 0, 0, 2), 111);
        Check.due("margin of e's d", x.margin(1, Check.named(x, "d"), 0, 0, 2), 118);
        Check.due("margin while e is not known", x.margin(0, Check.named(x, "c"), 0, 0, 1), 11);
        StringBuilder chain = new StringBuilder("award a from 0;");
        for (int i = 0; i < 25; i++) {
            chain.append("class ").append(letters(i)).append(" tasks 1 follows a ").append(letters((i + 1) % 25))
                    .append(" plus 3;");
        }
        WageCourt y = court(chain.toString());
        for (int name = 1; name <= 25; name++) {
            Check.due("margin in a ring of 25", y.margin(0, name, 0, 0, 1), 75);
        }
        Check.tell(y, "vary a from 3; class " + letters(24) + " tasks 1 margin 9;");
        Check.due("margin at the start of a chain of 25", y.margin(0, 1, 3, 0, 2), 24 * 3 + 9);
    }

    private static String letters(int i) {
        return "x" + (char) ('a' + i);
    }

    private static void held() {
        Check.holds("Terms", "What is told of the class that is asked is held to -9999 .. 9999.");
        String[] sums = {"9998", "9999", "9999 + 1", "9999 * 9999", "0 - 9998", "0 - 9999", "0 - 9999 - 1",
            "0 - 9999 * 9999", "8192 * 8192 * 32 - 1", "8192 * 8192 * 32"};
        int[] due = {9998, 9999, 9999, 9999, -9998, -9999, -9999, -9999, 9999, -9999};
        for (int i = 0; i < sums.length; i++) {
            WageCourt x = court("award a from 0; class c tasks 1 margin " + sums[i] + ";", "award b from 0; class d tasks 1"
                    + " follows a c plus 5; class e tasks 1 follows a c plus 0 - (" + sums[i] + ") + 3;");
            Check.due("margin of " + sums[i], x.margin(0, 1, 0, 0, 2), due[i]);
            Check.due("margin of what takes it away again, not held between", x.margin(1, 4, 0, 0, 2), 3);
        }
        WageCourt x = court("award a from 0; class c tasks 1 follows a d plus 8192 * 8192 * 32 - 1; class d tasks 1 margin 1;"
                + " class e tasks 1 follows a d plus 0 - 1; class f tasks 1 follows a d plus 9998; class g tasks 1 follows a d"
                + " plus 9999;");
        Check.due("a tie that wraps", x.margin(0, 1, 0, 0, 1), -9999);
        Check.due("a tie to 0", x.margin(0, 3, 0, 0, 1), 0);
        Check.due("a tie to 9999", x.margin(0, 4, 0, 0, 1), 9999);
        Check.due("a tie to 10000", x.margin(0, 5, 0, 0, 1), 9999);
    }

    private static void years() {
        Check.holds("Terms", "(years: 0 where no PERSON is asked, and for what is IN AMBIT.)");
        WageCourt x = court("award a from 0; binds if 0 == 0; class c tasks 1 margin 100 + years; class d tasks 2 follows a c"
                + " plus years;");
        x.log(0, 1, 50);
        x.answer(0, 1, 60);
        Check.row(x, 0, 0, 0, 1, 2);
        Check.row(x, 1, 0, 0, 1, 2);
        Check.due("margin where no person is asked", x.margin(0, 1, 0, 0, 5), 100);
        Check.due("margin of a tie", x.margin(0, 2, 0, 0, 5), 100);
        Check.due("rate of a person of 7 years", x.rate(0, 0, 0, 5), 107);
        Check.due("rate of it by a tie", x.rate(0, 0, 1, 5), 114);
        Check.due("rate of a person of 0 years", x.rate(1, 0, 0, 5), 100);
        Check.due("rate of it by a tie", x.rate(1, 0, 1, 5), 100);
        Check.tell(x, "vary a from 0; margin c is 60 + years; margin c is 61 - years; margin c is 57 + 10 * years;");
        int[] due = {0, 3, 0};
        for (int k = 0; k < 3; k++) {
            Check.due("fate with years 0, " + k, x.fate(5, k, 0, 0, 6), due[k]);
        }
        Check.due("margin", x.margin(0, 1, 0, 0, 6), 57);
        Check.due("rate beyond what was in ambit", x.rate(0, 0, 0, 6), 127);
        Check.due("rate of 0 years", x.rate(1, 0, 0, 6), 57);
    }

    private static void fates() {
        Check.holds("Promise 25", "What became of ITEM k (0 ..) of a TEXT on a DAY at a FIRM, as KNOWN by n: 0 it did what it"
                + " says, 1 its TEXT (of a vary, order: or its award) is not in force there, 2 GONE (also a margin of a class"
                + " that is not there), 3 it FALLS.");
        WageCourt x = court("award a from 5; load b 1; binds if 0 == 1; over c; choose most; round 2; extra b 2;",
                "vary a from 3; strike b; strike b; margin b is 1; margin c is 1;", "order a firm 0 from 4; class d tasks 1"
                + " margin 1; margin d is 1;", "agree a firm 0 from 2; load b 1; over a;", "vary a from 7; strike d;");
        x.stay(0, 8, 9);
        x.stay(1, 10, 11);
        x.stay(3, 5, 6);
        int n = x.count(3);
        for (int k = 0; k < 6; k++) {
            Check.due("fate in an award ahead of it", x.fate(0, k, 4, 0, n), 1);
            Check.due("fate in an award", x.fate(0, k, 5, 0, n), 0);
            Check.due("fate in an award that is stayed", x.fate(0, k, 8, 0, n), 1);
            Check.due("fate in an award while that is not known", x.fate(0, k, 8, 0, 5), 0);
        }
        int[][] vary = {{2, 1, 1, 1, 1}, {3, 1, 1, 1, 1}, {4, 1, 1, 1, 1}, {5, 0, 2, 2, 2}, {8, 1, 1, 1, 1}, {9, 0, 2, 2, 2},
            {10, 1, 1, 1, 1}, {11, 0, 2, 2, 2}};
        for (int[] v : vary) {
            for (int k = 0; k < 4; k++) {
                Check.due("fate " + k + " in a vary on day " + v[0], x.fate(1, k, v[0], 0, n), v[1 + k]);
            }
        }
        Check.due("fate in an order ahead of its award", x.fate(2, 0, 4, 0, n), 1);
        Check.due("fate in an order", x.fate(2, 0, 5, 0, n), 0);
        Check.due("fate of a margin without claims", x.fate(2, 1, 5, 0, n), 3);
        Check.due("fate in an order at another firm", x.fate(2, 0, 5, 1, n), 1);
        Check.due("fate of what strikes the order's class", x.fate(4, 0, 7, 0, n), 0);
        Check.due("fate of it where the order is not in force", x.fate(4, 0, 7, 1, n), 2);
        int[][] agree = {{1, 1}, {2, 0}, {4, 0}, {5, 1}, {6, 0}, {8, 0}};
        for (int[] a : agree) {
            Check.due("fate in an agree on day " + a[0], x.fate(3, 0, a[0], 0, n), a[1]);
            Check.due("fate in an agree at another firm", x.fate(3, 1, a[0], 1, n), 1);
        }
    }

    private static void fateOfNoSuchOnes() {
        Check.holds("Promise 25", "NONE: no such ones.");
        WageCourt x = withOneAward();
        for (int[] w : wrongOnes()) {
            Check.due("fate" + java.util.Arrays.toString(w), x.fate(w[0], 0, w[1], w[2], w[3]), -1);
        }
        int[] none = {-1, 1, 2, 30, LEAST, MOST};
        for (int k : none) {
            Check.due("fate of item " + k, x.fate(1, k, 0, 0, 3), -1);
        }
        Check.due("fate of item 0", x.fate(1, 0, 0, 0, 3), 0);
        Check.due("fate of item 0 of a text without", court("award a from 0;").fate(0, 0, 0, 0, 1), -1);
        WageCourt y = court("award a from 5;" + "round 1;".repeat(30), "vary a from 0;" + "load b 1;".repeat(30));
        for (int text = 0; text < 2; text++) {
            Check.due("fate of item 29", y.fate(text, 29, 5, 0, 2), 0);
            Check.due("fate of item 29, not in force", y.fate(text, 29, 4, 0, 2), 1);
            Check.due("fate of item 30", y.fate(text, 30, 5, 0, 2), -1);
            Check.due("fate of item 30, not in force", y.fate(text, 30, 4, 0, 2), -1);
        }
    }

    private static void itemsAsked() {
        Check.holds("Promise 26", "Of an award, or an agree, as it is on a DAY at a FIRM, as KNOWN by n, the k-th of its"
                + " classes, loads and extras: what 0: 0 class, 1 load, 2 extra; 1: its NAME; 2: the TEXT that told it.");
        WageCourt x = court("award a from 0; binds if 0 == 0; extra b 1; round 3; load c 1; choose most; class d tasks 1"
                + " margin 1; over b;", "order a firm 1 from 9; load d 1; margin d is 1; class e tasks 1 margin 1;",
                "agree a firm 1 from 3; round 5; load f 1; over a; class a tasks 1 margin 1;");
        stands(x, 0, 0, 0, one(2, 1, 0), one(1, 2, 0), one(0, 3, 0));
        stands(x, 0, 8, 1, one(2, 1, 0), one(1, 2, 0), one(0, 3, 0));
        stands(x, 0, 9, 1, one(2, 1, 0), one(1, 2, 0), one(1, 3, 1), one(0, 4, 1));
        stands(x, 2, 3, 1, one(1, 5, 2), one(0, 0, 2));
        Check.due("item by 1", x.item(0, 9, 1, 2, 1, 2), 0);
        Check.due("item by 2", x.item(0, 9, 1, 2, 2, 2), 1);
    }

    private static void itemOfNoSuchOnes() {
        Check.holds("Promise 26", "NONE: not so many, it is not in force, no such ones.");
        WageCourt x = withOneAward();
        for (int[] w : wrongOnes()) {
            for (int what = 0; what < 3; what++) {
                Check.due("item" + java.util.Arrays.toString(w), x.item(w[0], w[1], w[2], 0, w[3], what), -1);
            }
        }
        int[] none = {-1, 1, 2, 59, 60, LEAST, MOST};
        for (int k : none) {
            Check.due("item " + k, x.item(1, 0, 0, k, 3, 0), -1);
        }
        int[] others = {-1, 3, 4, LEAST, MOST};
        for (int what : others) {
            Check.due("item, what " + what, x.item(1, 0, 0, 0, 3, what), -1);
        }
        Check.due("item 0", x.item(1, 0, 0, 0, 3, 0), 0);
        WageCourt y = court("award a from 5; load b 1;", "vary a from 0; load b 1;", "order a firm 0 from 0; load b 1;",
                "agree a firm 0 from 5; load b 1;");
        y.stay(0, 6, 7);
        y.stay(3, 6, 7);
        for (int text = 0; text < 4; text++) {
            int due = text == 0 || text == 3 ? 1 : -1;
            Check.due("item of " + text + " ahead of it", y.item(text, 4, 0, 0, 6, 1), -1);
            Check.due("item of " + text, y.item(text, 5, 0, 0, 6, 1), due);
            Check.due("item of " + text + ", stayed", y.item(text, 6, 0, 0, 6, 1), -1);
            Check.due("item of " + text + " behind the stay", y.item(text, 7, 0, 0, 6, 1), due);
        }
        Check.due("item of an agree at another firm", y.item(3, 5, 1, 0, 6, 1), -1);
    }

    private static void marginOfNoSuchOnes() {
        Check.holds("Promise 27", "MARGIN of a class (its NAME) of an award, or an agree, as it is on a DAY at a FIRM, as KNOWN"
                + " by n; -1000000: it has no such class, it is not in force, no such ones.");
        WageCourt x = withOneAward();
        for (int[] w : wrongOnes()) {
            Check.due("margin" + java.util.Arrays.toString(w), x.margin(w[0], 1, w[1], w[2], w[3]), NONE);
        }
        int[] none = {-1, 0, 2, 3, 59, 60, LEAST, MOST};
        for (int name : none) {
            Check.due("margin of name " + name, x.margin(1, name, 0, 0, 3), NONE);
        }
        Check.due("margin", x.margin(1, 1, 0, 0, 3), 5);
        WageCourt y = court("award a from 5; load b 1; class c tasks 1 margin 0; extra d 1;",
                "vary a from 0; class c tasks 1 margin 2;", "order a firm 0 from 0; class c tasks 1 margin 3;",
                "agree a firm 0 from 5; class c tasks 1 margin 0 - 1; load e 1;");
        y.stay(0, 6, 7);
        y.stay(3, 6, 7);
        for (int text = 0; text < 4; text++) {
            int due = text == 0 ? 3 : text == 3 ? -1 : NONE;
            Check.due("margin of " + text + " ahead of it", y.margin(text, 2, 4, 0, 6), NONE);
            Check.due("margin of " + text, y.margin(text, 2, 5, 0, 6), due);
            Check.due("margin of " + text + ", stayed", y.margin(text, 2, 6, 0, 6), NONE);
            Check.due("margin of " + text + " behind the stay", y.margin(text, 2, 7, 0, 6), due);
        }
        Check.due("margin of a load", y.margin(0, 1, 5, 0, 6), NONE);
        Check.due("margin of an extra", y.margin(0, 3, 5, 0, 6), NONE);
        Check.due("margin of an agree's load", y.margin(3, 4, 5, 0, 6), NONE);
        Check.due("margin of an agree at another firm", y.margin(3, 2, 5, 1, 6), NONE);
        Check.due("margin of 0", y.margin(0, 2, 5, 0, 1), 0);
    }
}
