/** Promises 1, 7 to 11 and 46: a new object, the land, marks and weights, counts. */
final class LandTest {
    public static void main(String[] args) {
        newObject();
        towns();
        firms();
        people();
        marks();
        weights();
        counts();
        Check.end();
    }

    private static void newObject() {
        WageCourt x = new WageCourt();
        for (int what = 0; what <= 6; what++) {
            Check.due("count of a new object " + what, x.count(what), 0);
        }
        Check.due("place without a read", x.place(), -1);
        Check.due("kind without a fact", x.kind(0), -1);
        Check.due("cell without a fact", x.cell(0, 0), false);
        Check.due("part without a parting", x.part(0, 0), -1);
        Check.due("turned of nobody", x.turned(0, 0), -1);
        x.town();
        x.price(0, 0, 0, 1);
        x.price(0, 0, 1, 10);
        x.price(0, 0, 2, 20);
        x.price(0, 0, 3, 40);
        Check.due("least with first weights", x.least(0, 0, 4), 71);
    }

    private static void towns() {
        WageCourt x = new WageCourt();
        for (int i = 0; i < 5; i++) {
            Check.due("town", x.town(), i);
        }
        Check.due("sixth town", x.town(), -1);
        Check.due("towns", x.count(0), 5);
    }

    private static void firms() {
        WageCourt x = new WageCourt();
        Check.due("firm without a town", x.firm(0, 0), -1);
        x.town();
        Check.due("firm of town -1", x.firm(-1, 0), -1);
        Check.due("firm of town 1", x.firm(1, 0), -1);
        Check.due("firm of trade -1", x.firm(0, -1), -1);
        Check.due("firm of trade 8", x.firm(0, 8), -1);
        Check.due("firms after wrong ones", x.count(1), 0);
        for (int i = 0; i < 8; i++) {
            Check.due("firm", x.firm(0, i), i);
        }
        Check.due("ninth firm", x.firm(0, 0), -1);
        Check.due("firms", x.count(1), 8);
    }

    private static void people() {
        WageCourt x = new WageCourt();
        x.town();
        Check.due("person without a firm", x.person(0, 0, 0), -1);
        x.firm(0, 0);
        Check.due("person of firm -1", x.person(-1, 0, 0), -1);
        Check.due("person of firm 1", x.person(1, 0, 0), -1);
        Check.due("person with tickets -1", x.person(0, -1, 0), -1);
        Check.due("person with tickets 256", x.person(0, 256, 0), -1);
        Check.due("person with years -1", x.person(0, 0, -1), -1);
        Check.due("person with years 41", x.person(0, 0, 41), -1);
        Check.due("people after wrong ones", x.count(2), 0);
        Check.due("person", x.person(0, 255, 40), 0);
        for (int i = 1; i < 10; i++) {
            Check.due("person", x.person(0, 0, 0), i);
        }
        Check.due("eleventh person", x.person(0, 0, 0), -1);
        Check.due("people", x.count(2), 10);
    }

    private static void marks() {
        WageCourt x = new WageCourt();
        Check.due("marks of task -1", x.marks(-1, 0), false);
        Check.due("marks of task 16", x.marks(16, 0), false);
        Check.due("marks -1", x.marks(0, -1), false);
        Check.due("marks 256", x.marks(0, 256), false);
        Check.due("marks 255", x.marks(15, 255), true);
        Check.due("marks 0", x.marks(0, 0), true);
    }

    private static void weights() {
        WageCourt x = new WageCourt();
        x.town();
        x.price(0, 0, 3, 7);
        Check.due("weight of good -1", x.weight(-1, 0), false);
        Check.due("weight of good 4", x.weight(4, 0), false);
        Check.due("weight -1", x.weight(3, -1), false);
        Check.due("weight 10", x.weight(3, 10), false);
        Check.due("least after wrong weights", x.least(0, 0, 1), 7);
        Check.due("weight 9", x.weight(3, 9), true);
        Check.due("least with weight 9", x.least(0, 0, 1), 63);
        Check.due("weight 0", x.weight(3, 0), true);
        Check.due("least with weight 0", x.least(0, 0, 1), 0);
    }

    private static void counts() {
        WageCourt x = new WageCourt();
        x.town();
        x.town();
        x.firm(1, 3);
        Check.tell(x, "award a from 0; class b tasks 1 margin 1;");
        x.wet(0, 1, 1);
        x.feed(0, 0, 0, 0, 0);
        Check.due("count of towns", x.count(0), 2);
        Check.due("count of firms", x.count(1), 1);
        Check.due("count of people", x.count(2), 0);
        Check.due("count of facts", x.count(3), 2);
        Check.due("count of texts", x.count(4), 1);
        Check.due("count of names", x.count(5), 2);
        Check.due("count of bytes", x.count(6), 20);
        Check.due("count of 7", x.count(7), -1);
        Check.due("count of -1", x.count(-1), -1);
    }
}
