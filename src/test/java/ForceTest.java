/** Promises 24 to 27: which TEXTS are in force, what became of ITEMS, awards as they are, MARGINS. */
final class ForceTest {
    public static void main(String[] args) {
        force();
        wrongOnes();
        itemsTakePlaces();
        orderOfTexts();
        awardNotInForce();
        fates();
        ambit();
        ambitOfOthers();
        marginsByVars();
        marginNumbers();
        ties();
        tiesAcross();
        agrees();
        sixtyStand();
        Check.end();
    }

    /** A town, two firms of trades 2 and 3 in it. */
    private static WageCourt land() {
        WageCourt x = new WageCourt();
        x.town();
        x.firm(0, 2);
        x.firm(0, 3);
        x.person(0, 0, 7);
        return x;
    }

    private static void force() {
        WageCourt x = land();
        Check.tell(x, "award a from 5;");
        Check.tell(x, "vary a from 0;");
        Check.tell(x, "order a firm 1 from 3;");
        Check.tell(x, "agree a firm 0 from 4;");
        Check.tell(x, "order a firm 7 from 0;");
        int[][] due = {{0, 0, 5}, {1, 1, 0}, {2, -1, 3}, {3, 4, -1}, {4, -1, -1}};
        for (int[] d : due) {
            for (int firm = 0; firm < 2; firm++) {
                int from = d[0] == 0 ? 5 : d[0] == 1 ? 0 : d[1 + firm];
                for (int day = 0; day < 10; day++) {
                    Check.due("force of " + d[0], x.force(d[0], day, firm, 5), from >= 0 && day >= from ? 1 : 0);
                }
            }
        }
        x.stay(1, 2, 4);
        Check.due("force of a stayed vary", x.force(1, 3, 0, 6), 0);
        Check.due("force of its award", x.force(0, 139, 0, 6), 1);
    }

    private static void wrongOnes() {
        WageCourt x = land();
        x.wet(0, 0, 0);
        Check.tell(x, "award a from 0; class c tasks 1 margin 3;");
        Check.tell(x, "vary a from 0; round 2;");
        int[][] wrong = {{0, 0, 0, 3}, {-1, 0, 0, 3}, {3, 0, 0, 3}, {1, -1, 0, 3}, {1, 140, 0, 3}, {1, 0, -1, 3},
            {1, 0, 2, 3}, {1, 0, 0, 1}, {1, 0, 0, 4}, {1, 0, 0, -1}, {1, 0, 0, 0}};
        for (int[] w : wrong) {
            Check.due("force of wrong ones", x.force(w[0], w[1], w[2], w[3]), -1);
            Check.due("fate of wrong ones", x.fate(w[0], 0, w[1], w[2], w[3]), -1);
            Check.due("item of wrong ones", x.item(w[0], w[1], w[2], 0, w[3], 0), -1);
            Check.due("margin of wrong ones", x.margin(w[0], 1, w[1], w[2], w[3]), -1000000);
        }
        Check.due("fate of item -1", x.fate(1, -1, 0, 0, 3), -1);
        Check.due("fate of item 1", x.fate(1, 1, 0, 0, 3), -1);
        Check.due("item -1", x.item(1, 0, 0, -1, 3, 0), -1);
        Check.due("item 1", x.item(1, 0, 0, 1, 3, 0), -1);
        Check.due("item, what -1", x.item(1, 0, 0, 0, 3, -1), -1);
        Check.due("item, what 3", x.item(1, 0, 0, 0, 3, 3), -1);
        Check.due("item of a vary", x.item(2, 0, 0, 0, 3, 0), -1);
        Check.due("margin of a vary", x.margin(2, 1, 0, 0, 3), -1000000);
        Check.due("margin of name 0", x.margin(1, 0, 0, 0, 3), -1000000);
        Check.due("margin of name -1", x.margin(1, -1, 0, 0, 3), -1000000);
        Check.due("margin of name 2", x.margin(1, 2, 0, 0, 3), -1000000);
        Check.due("margin", x.margin(1, 1, 0, 0, 3), 3);
    }

    /** What stands, as rows of kind, NAME and teller. */
    private static void stands(WageCourt x, int text, int day, int firm, int[]... due) {
        int n = x.count(3);
        for (int k = 0; k < due.length; k++) {
            for (int what = 0; what < 3; what++) {
                Check.due("item " + k + ", what " + what + " on day " + day, x.item(text, day, firm, k, n, what),
                        due[k][what]);
            }
        }
        Check.due("item behind all", x.item(text, day, firm, due.length, n, 0), -1);
    }

    private static void itemsTakePlaces() {
        WageCourt x = land();
        Check.tell(x, "award a from 0; class b tasks 1 margin 1; binds if 0 == 0; load c 1; extra d 1; choose most;");
        stands(x, 0, 0, 0, new int[] {0, 1, 0}, new int[] {1, 2, 0}, new int[] {2, 3, 0});
        Check.tell(x, "vary a from 1; extra c 2; class e tasks 1 margin 9; strike b; class b tasks 2 margin 5;");
        stands(x, 0, 0, 0, new int[] {0, 1, 0}, new int[] {1, 2, 0}, new int[] {2, 3, 0});
        stands(x, 0, 1, 0, new int[] {2, 2, 1}, new int[] {2, 3, 0}, new int[] {0, 4, 1}, new int[] {0, 1, 1});
        Check.due("margin of the new class", x.margin(0, 1, 1, 0, 2), 5);
        Check.due("margin of the old class", x.margin(0, 1, 0, 0, 2), 1);
        Check.tell(x, "award z from 0; class b tasks 1 margin 1; class b tasks 1 margin 2; load b 3; load c 1;");
        stands(x, 2, 0, 0, new int[] {1, 1, 2}, new int[] {1, 2, 2});
        Check.due("margin of what is a load", x.margin(2, 1, 0, 0, 3), -1000000);
    }

    private static void orderOfTexts() {
        WageCourt x = land();
        Check.tell(x, "award a from 0; class c tasks 1 margin 1;");
        Check.tell(x, "vary a from 5; class c tasks 1 margin 2;");
        Check.tell(x, "vary a from 3; class c tasks 1 margin 3;");
        Check.tell(x, "order a firm 1 from 5; class c tasks 1 margin 4;");
        Check.tell(x, "vary a from 5; class c tasks 1 margin 5 + 0 * years;");
        Check.tell(x, "vary a from 0; class c tasks 1 margin 6;");
        int[] days = {0, 2, 3, 4, 5, 139};
        int[] due = {6, 6, 3, 3, 5, 5};
        for (int i = 0; i < days.length; i++) {
            Check.due("margin on day " + days[i], x.margin(0, 1, days[i], 0, 6), due[i]);
        }
        Check.due("margin by 4 at firm 0", x.margin(0, 1, 5, 0, 4), 2);
        Check.due("margin by 4 at firm 1", x.margin(0, 1, 5, 1, 4), 4);
        Check.due("margin by 3", x.margin(0, 1, 4, 0, 3), 3);
        Check.due("margin by 2", x.margin(0, 1, 4, 0, 2), 1);
        Check.due("margin by 1", x.margin(0, 1, 4, 0, 1), 1);
        x.stay(4, 6, 8);
        Check.due("margin with the last one stayed", x.margin(0, 1, 6, 0, 7), 2);
        Check.due("margin with the last one stayed, at firm 1", x.margin(0, 1, 7, 1, 7), 4);
        Check.due("margin behind the stay", x.margin(0, 1, 8, 0, 7), 5);
    }

    /** A vary may be in force ahead of its award; then it does nothing. */
    private static void awardNotInForce() {
        WageCourt x = land();
        Check.tell(x, "award a from 5; class c tasks 1 margin 1;");
        Check.tell(x, "vary a from 0; class c tasks 1 margin 2;");
        Check.due("force", x.force(1, 4, 0, 2), 1);
        Check.due("fate ahead of its award", x.fate(1, 0, 4, 0, 2), 1);
        Check.due("fate with its award", x.fate(1, 0, 5, 0, 2), 0);
        Check.due("margin ahead", x.margin(0, 1, 4, 0, 2), -1000000);
        Check.due("item ahead", x.item(0, 4, 0, 0, 2, 0), -1);
        Check.due("margin with it", x.margin(0, 1, 5, 0, 2), 2);
        Check.due("item with it", x.item(0, 5, 0, 0, 2, 2), 1);
        x.stay(0, 6, 7);
        Check.due("fate while its award is stayed", x.fate(1, 0, 6, 0, 3), 1);
        Check.due("fate of an award's item", x.fate(0, 0, 6, 0, 3), 1);
        Check.due("fate before the stay is known", x.fate(1, 0, 6, 0, 2), 0);
        Check.due("margin while it is stayed", x.margin(0, 1, 6, 0, 3), -1000000);
    }

    private static void fates() {
        WageCourt x = land();
        Check.tell(x, "award a from 0; binds if 0 == 1; over b; class c tasks 1 margin 1; choose each; load l 1;"
                + "extra e 1; round 3;");
        for (int k = 0; k < 7; k++) {
            Check.due("fate in an award", x.fate(0, k, 0, 0, 1), 0);
        }
        Check.tell(x, "vary a from 2; strike c; strike c; margin c is 1; strike l; margin e is 1; class c tasks 1 margin"
                + " 1; margin c is 1; strike nope; choose most; round 4; load l 1; extra e 2;");
        int[] due = {0, 2, 2, 0, 2, 0, 3, 2, 0, 0, 0, 0};
        for (int k = 0; k < due.length; k++) {
            Check.due("fate " + k + " in a vary", x.fate(1, k, 2, 0, 2), due[k]);
            Check.due("fate " + k + " ahead of it", x.fate(1, k, 1, 0, 2), 1);
        }
        Check.tell(x, "order a firm 1 from 0; strike l; strike l;");
        Check.due("fate in an order", x.fate(2, 0, 0, 1, 3), 0);
        Check.due("fate in an order", x.fate(2, 1, 0, 1, 3), 2);
        Check.due("fate in an order at another firm", x.fate(2, 0, 0, 0, 3), 1);
        Check.due("fate of a vary behind the order", x.fate(1, 3, 2, 1, 3), 2);
        Check.due("fate of it at another firm", x.fate(1, 3, 2, 0, 3), 0);
    }

    private static void ambit() {
        WageCourt x = land();
        Check.tell(x, "award a from 0; class c tasks 1 margin 1;");
        x.log(0, 1, 50);
        int early = Check.tell(x, "vary a from 0; margin c is 45;");
        x.answer(0, 1, 40);
        int[] values = {39, 40, 45, 50, 51};
        int[] due = {3, 0, 0, 0, 3};
        for (int i = 0; i < values.length; i++) {
            int vary = Check.tell(x, "vary a from 0; margin c is " + values[i] + "; class d tasks 2 margin 1;");
            int n = x.count(3);
            Check.due("fate of margin " + values[i], x.fate(vary, 0, 0, 0, n), due[i]);
            Check.due("fate of what stands beside it", x.fate(vary, 1, 0, 0, n), 0);
        }
        Check.due("fate without an answer", x.fate(early, 0, 0, 0, x.count(3)), 3);
        Check.due("margin in the end", x.margin(0, 1, 0, 0, x.count(3)), 50);
        Check.due("teller of the class", x.item(0, 0, 0, 0, x.count(3), 2), 0);
        x.price(0, 0, 1, 5);
        int beside = Check.tell(x, "vary a from 0; margin c is 30;");
        Check.due("fate beside what is no log", x.fate(beside, 0, 0, 0, x.count(3)), 3);
        x.log(0, 1, 10);
        x.answer(0, 1, 20);
        Check.due("margin told ahead of the new log", x.margin(0, 1, 0, 0, x.count(3)), 50);
        int late = Check.tell(x, "vary a from 0; margin c is 15; margin c is 30;");
        Check.due("fate with answer above log", x.fate(late, 0, 0, 0, x.count(3)), 0);
        Check.due("fate of the second", x.fate(late, 1, 0, 0, x.count(3)), 3);
        Check.due("margin", x.margin(0, 1, 0, 0, x.count(3)), 15);
    }

    private static void ambitOfOthers() {
        WageCourt x = land();
        x.price(0, 0, 0, 9);
        x.price(0, 1, 0, 12);
        Check.tell(x, "award a from 0; class c tasks 1 margin 1; class d tasks 2 margin 2;");
        Check.tell(x, "award b from 0; class c tasks 1 margin 1;");
        x.log(3, 1, 0);
        x.answer(3, 1, 99);
        x.log(2, 2, 0);
        x.answer(2, 2, 99);
        int other = Check.tell(x, "vary a from 0; margin c is 5;");
        Check.due("fate by another award's log", x.fate(other, 0, 0, 0, x.count(3)), 3);
        x.log(2, 1, 8);
        x.answer(2, 1, 10);
        int least = Check.tell(x, "vary a from 0; margin c is least;");
        Check.due("fate with the least of day 0", x.fate(least, 0, 34, 0, x.count(3)), 0);
        Check.due("fate with the least of day 35", x.fate(least, 0, 35, 0, x.count(3)), 3);
        Check.due("margin", x.margin(2, 1, 34, 0, x.count(3)), 9);
        Check.due("margin", x.margin(2, 1, 35, 0, x.count(3)), 1);
        int years = Check.tell(x, "vary a from 0; margin c is years + 9 + task + rate + half;");
        Check.due("fate with years 0", x.fate(years, 0, 0, 0, x.count(3)), 0);
        Check.due("margin with years 0", x.margin(2, 1, 0, 0, x.count(3)), 9);
        Check.tell(x, "order a firm 1 from 0; margin c is 10 / 0 + 9;");
        int zero = x.count(3) - 1;
        Check.due("fate by 0", x.fate(zero, 0, 0, 1, x.count(3)), 3);
        Check.tell(x, "order a firm 1 from 0; margin c is trade * 3 + who - town;");
        Check.due("fate by trade and who", x.fate(zero + 1, 0, 0, 1, x.count(3)), 0);
        Check.due("margin by trade and who", x.margin(2, 1, 0, 1, x.count(3)), 10);
    }

    private static void marginsByVars() {
        WageCourt x = land();
        x.town();
        x.firm(1, 5);
        x.price(1, 0, 0, 3);
        x.price(1, 2, 0, 4);
        Check.tell(x, "award a from 0; class c tasks 1 margin 1000 * town + 100 * who + 10 * trade + least;"
                + "class d tasks 2 margin years + task + weekday + half + worked + week + wet + rate;");
        Check.due("margin at firm 0", x.margin(2, 1, 0, 0, 3), 20);
        Check.due("margin at firm 1", x.margin(2, 1, 0, 1, 3), 130);
        Check.due("margin at firm 2", x.margin(2, 1, 69, 2, 3), 1253);
        Check.due("margin in another quarter", x.margin(2, 1, 70, 2, 3), 1254);
        Check.due("margin of other vars", x.margin(2, 2, 3, 0, 3), 0);
    }

    private static void marginNumbers() {
        String[] sums = {"9 / 2", "0 - 9 / 2", "(0 - 9) / 2", "9 / (0 - 2)", "7 / 0 + 5", "5 + 3 * (2 / (1 - 1))",
            "2 + 3 * 4", "(2 + 3) * 4", "20 - 5 - 3", "100 / 5 / 2", "100 / (5 / 2)", "9999", "9999 + 1",
            "0 - 9999 - 1", "9999 * 9999", "9999 * 9999 * 9999", "2 * 3 / 4", "2 / 4 * 3", "0 / 5",
            "((((((1 + 2))))))"};
        long[] due = {4, -4, -4, -4, 0, 0, 14, 20, 12, 10, 50, 9999, 9999, -9999, 9999, 0, 1, 0, 0, 3};
        due[15] = Math.max(-9999, Math.min(9999, 9999 * 9999 * 9999));
        for (int i = 0; i < sums.length; i++) {
            WageCourt x = land();
            Check.tell(x, "award a from 0; class c tasks 1 margin " + sums[i] + ";");
            Check.due("margin of " + sums[i], x.margin(0, 1, 0, 0, 1), due[i]);
        }
        WageCourt x = land();
        Check.tell(x, "award a from 0; class c tasks 1 margin (0 - 8192 * 8192 * 32) / (0 - 1) + 2147 + 8192 * 8191 * 32"
                + " + 8000 * 32;");
        int wrapped = -8192 * 8192 * 32 / -1 + 2147 + 8192 * 8191 * 32 + 8000 * 32;
        Check.due("margin that wraps", x.margin(0, 1, 0, 0, 1), Math.max(-9999, Math.min(9999, wrapped)));
    }

    private static void ties() {
        WageCourt x = land();
        Check.tell(x, "award a from 0; class c tasks 1 follows a d plus 1; class d tasks 1 follows a e plus 10;"
                + "class e tasks 1 margin 100; class f tasks 1 follows a f plus 5; class g tasks 1 follows a h plus 7;"
                + "class h tasks 1 follows a g plus 70; class i tasks 1 follows a g plus 700;"
                + "class j tasks 1 follows a l plus 3; load l 50; class k tasks 1 follows zz c plus 4;");
        String[] names = {"c", "d", "e", "f", "g", "h", "i", "j", "k"};
        int[] due = {111, 110, 100, 5, 77, 77, 777, 3, 4};
        for (int i = 0; i < names.length; i++) {
            Check.due("margin of " + names[i], x.margin(0, Check.named(x, names[i]), 0, 0, 1), due[i]);
        }
        x.log(0, Check.named(x, "d"), 0);
        x.answer(0, Check.named(x, "d"), 99);
        Check.tell(x, "vary a from 3; margin d is 6;");
        Check.due("margin of a tie that is cut", x.margin(0, 1, 3, 0, 4), 7);
        Check.due("margin of it ahead", x.margin(0, 1, 2, 0, 4), 111);
        Check.tell(x, "vary a from 4; strike d;");
        Check.due("margin of a tie to what is gone", x.margin(0, 1, 4, 0, 5), 1);
    }

    private static void tiesAcross() {
        WageCourt x = land();
        Check.tell(x, "award a from 0; class c tasks 1 follows b c plus 1;");
        Check.tell(x, "award b from 2; class c tasks 1 follows a d plus 9999; class d tasks 1 margin 5;");
        Check.tell(x, "vary a from 4; class d tasks 1 margin 9000;");
        Check.tell(x, "order b firm 1 from 0; class c tasks 1 follows a d plus 0 - 9000 - 9000;");
        int c = 1;
        Check.due("margin ahead of the other award", x.margin(0, c, 1, 0, 4), 1);
        Check.due("margin, held only in the end", x.margin(0, c, 2, 0, 4), 9999);
        Check.due("margin of b", x.margin(1, c, 4, 0, 4), 9999);
        Check.due("margin by an order for the firm", x.margin(1, c, 4, 1, 4), -9000);
        Check.due("margin that follows it", x.margin(0, c, 4, 1, 4), -8999);
        Check.due("margin that is held", x.margin(1, c, 3, 1, 4), -9999);
        Check.due("margin of a known by 1", x.margin(0, c, 4, 0, 1), 1);
        x.stay(1, 4, 5);
        Check.due("margin while the other is stayed", x.margin(0, c, 4, 1, 5), 1);
        Check.tell(x, "agree a firm 0 from 0; class c tasks 1 follows b e plus 3;");
        Check.tell(x, "vary b from 0; class e tasks 1 margin 9999;");
    }

    /** As many as there are NAMES, the award's own among them. */
    private static void sixtyStand() {
        WageCourt x = land();
        Check.tell(x, "award aa from 0; binds if 0 == 0;");
        for (int text = 0; text < 3; text++) {
            StringBuilder told = new StringBuilder("vary aa from 0;");
            for (int i = 20 * text; i < 20 * text + 20; i++) {
                String name = "" + (char) ('a' + i / 26) + (char) ('a' + i % 26);
                told.append(i == 59 ? " class " + name + " tasks 1 margin 3;" : " extra " + name + " 1;");
            }
            Check.tell(x, told.toString());
        }
        Check.due("names", x.count(5), 60);
        for (int k = 0; k < 60; k++) {
            Check.due("item " + k, x.item(0, 0, 0, k, 4, 1), k);
            Check.due("teller of item " + k, x.item(0, 0, 0, k, 4, 2), 1 + k / 20);
        }
        Check.due("item 60", x.item(0, 0, 0, 60, 4, 1), -1);
        Check.row(x, 0, 0, 0, 1);
        Check.due("worth with 59 extras", x.worth(0, 0, 0, 5), 300 + 59 * 200);
        Check.due("the last that counts", x.counted(0, 0, 0, 58, 5), 58);
        Check.due("behind the last that counts", x.counted(0, 0, 0, 59, 5), -1);
        Check.tell(x, "vary aa from 0; strike aa; strike bb; extra aa 5;");
        Check.due("the first of those that are left", x.item(0, 0, 0, 0, 6, 1), 1);
        Check.due("the last of them", x.item(0, 0, 0, 58, 6, 1), 0);
        Check.due("behind them", x.item(0, 0, 0, 59, 6, 1), -1);
    }

    private static void agrees() {
        WageCourt x = land();
        Check.tell(x, "award a from 9; class c tasks 1 margin 40;");
        Check.tell(x, "agree a firm 0 from 5; class d tasks 1 margin 2 + trade; class c tasks 1 follows a c plus 1;"
                + "load l 1; class d tasks 2 margin 3;");
        Check.tell(x, "vary a from 0; class d tasks 1 margin 50; class c tasks 1 margin 60;");
        stands(x, 1, 5, 0, new int[] {0, 2, 1}, new int[] {0, 1, 1}, new int[] {1, 3, 1});
        Check.due("margin in an agree", x.margin(1, 2, 5, 0, 3), 3);
        Check.due("margin in an agree ahead of the award", x.margin(1, 1, 5, 0, 3), 1);
        Check.due("margin that follows the award", x.margin(1, 1, 9, 0, 3), 61);
        Check.due("margin at another firm", x.margin(1, 2, 9, 1, 3), -1000000);
        Check.due("item at another firm", x.item(1, 9, 1, 0, 3, 0), -1);
        Check.due("margin ahead of it", x.margin(1, 2, 4, 0, 3), -1000000);
        Check.due("fate in an agree", x.fate(1, 0, 5, 0, 3), 0);
        Check.due("fate in an agree ahead of it", x.fate(1, 0, 4, 0, 3), 1);
        Check.due("fate in an agree at another firm", x.fate(1, 0, 9, 1, 3), 1);
    }
}
