/** Promises 2, 3 and 6: feed, back, named. */
final class TapeTest {
    public static void main(String[] args) {
        feed();
        bytesInOrder();
        back();
        named();
        Check.end();
    }

    private static void feed() {
        WageCourt x = new WageCourt();
        for (int i = 1; i <= 100; i++) {
            Check.due("feed", x.feed(-1, 0, 1, Integer.MIN_VALUE, Integer.MAX_VALUE), 20 * i);
        }
        Check.due("feed above 2,000", x.feed(0, 0, 0, 0, 0), -1);
        Check.due("bytes after it", x.count(6), 2000);
        Check.due("back(19)", x.back(19), 1981);
        Check.due("feed above 2,000 by one", x.feed(0, 0, 0, 0, 0), -1);
        Check.due("bytes after it", x.count(6), 1981);
        Check.due("back(1)", x.back(1), 1980);
        Check.due("feed up to 2,000", x.feed(0, 0, 0, 0, 0), 2000);
    }

    /** "abcd" is one number, its a the highest byte. */
    private static void bytesInOrder() {
        WageCourt x = new WageCourt();
        Check.tell(x, "award abcd from 0;");
        x.feed(0x61626364, 0x20202020, 0x20202020, 0x20202020, 0x20202020);
        Check.due("named abcd", x.named(), 0);
        x.feed(0x20202020, 0x20202020, 0x20202061, 0x62636420, 0x20202020);
        Check.due("named abcd over two numbers", x.named(), 0);
        x.feed(0x64636261, 0x20202020, 0x20202020, 0x20202020, 0x20202020);
        Check.due("named dcba", x.named(), -1);
    }

    private static void back() {
        WageCourt x = new WageCourt();
        Check.due("back(0) of nothing", x.back(0), 0);
        Check.due("back(1) of nothing", x.back(1), -1);
        x.feed(0, 0, 0, 0, 0);
        Check.due("back(-1)", x.back(-1), -1);
        Check.due("back(least int)", x.back(Integer.MIN_VALUE), -1);
        Check.due("back(21)", x.back(21), -1);
        Check.due("bytes after it", x.count(6), 20);
        Check.due("back(0)", x.back(0), 20);
        Check.due("back(5)", x.back(5), 15);
        Check.due("back(15)", x.back(15), 0);
        Check.due("back(1)", x.back(1), -1);
    }

    private static void named() {
        WageCourt x = new WageCourt();
        Check.due("named of an empty tape", x.named(), -1);
        Check.tell(x, "award one from 0; class twotwotw tasks 1 follows three four plus 1;"
                + " load five 1 bars six bars one; over seven;");
        String[] names = {"one", "twotwotw", "three", "four", "five", "six", "seven"};
        for (int i = 0; i < names.length; i++) {
            Check.due("named " + names[i], Check.named(x, names[i]), i);
        }
        Check.due("named with blanks", Check.named(x, " \t\n\rthree\r\n\t "), 2);
        Check.due("bytes after named", x.count(6), 0);
        Check.tape(x, "onetwo");
        x.back(3);
        Check.due("named of what is left", x.named(), 0);
        Check.due("named of two", Check.named(x, "one one"), -1);
        Check.due("bytes after no name", x.count(6), 0);
        Check.due("named with a sign", Check.named(x, "one;"), -1);
        Check.due("named with what is no token", Check.named(x, "one."), -1);
        Check.due("named behind what is no token", Check.named(x, "$one"), -1);
        Check.due("named of a word", Check.named(x, "class"), -1);
        Check.due("named of firm", Check.named(x, "firm"), -1);
        Check.due("named of an int", Check.named(x, "1"), -1);
        Check.due("named of blanks", Check.named(x, "   "), -1);
        Check.due("named of no name yet", Check.named(x, "eight"), -1);
        Check.due("named of a longer one", Check.named(x, "twotwotwo"), -1);
        Check.due("named of capitals", Check.named(x, "One"), -1);
        Check.fault(x, "award nine from 0; class ten tasks 1 margin 1; x", 1, 47);
        Check.due("names of a text with a fault", Check.named(x, "nine"), -1);
        Check.due("names of a text with a fault", x.count(5), 7);
    }
}
