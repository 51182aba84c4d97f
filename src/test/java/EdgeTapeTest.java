/** Boundary cases of promises 2, 3 and 6: feed, back, named. */
final class EdgeTapeTest {
    public static void main(String[] args) {
        twentyBytes();
        fedBehind();
        feedUpTo2000();
        back();
        backRefused();
        namedEmpties();
        namedOneToken();
        namedNoSuchOne();
        namedLong();
        namesAreFull();
        Check.end();
    }

    /** Twenty blanks, and at that place a byte that is no TOKEN: read() tells where it stands. */
    private static void twentyBytes() {
        Check.holds("Promise 2", "Twenty bytes, the highest of a first, come behind the tape: how many it has.");
        int[] odd = {0, 1, 8, 11, 12, 31, 33, 127, 128, 160, 254, 255};
        for (int place = 0; place < 20; place++) {
            int[] five = new int[5];
            for (int i = 0; i < 20; i++) {
                five[i / 4] = five[i / 4] << 8 | (i == place ? odd[place % odd.length] : 32);
            }
            WageCourt x = new WageCourt();
            Check.due("feed", x.feed(five[0], five[1], five[2], five[3], five[4]), 20);
            Check.due("read with byte " + odd[place % odd.length] + " at " + place, x.read(), 1);
            Check.due("place of the byte at " + place, x.place(), place);
        }
        int[] extremes = {0, -1, Integer.MIN_VALUE, Integer.MAX_VALUE, 0x80808080};
        for (int v : extremes) {
            WageCourt x = new WageCourt();
            Check.due("feed of " + v, x.feed(v, v, v, v, v), 20);
            Check.due("bytes behind it", x.count(6), 20);
            Check.due("read of " + v, x.read(), 1);
            Check.due("place in it", x.place(), 0);
        }
    }

    private static void fedBehind() {
        WageCourt x = new WageCourt();
        Check.due("feed", x.feed(0x61776172, 0x64206120, 0x66726f6d, 0x20303b20, 0x20202020), 20);
        Check.due("feed", x.feed(0x20202020, 0x20202020, 0x20202020, 0x20202020, 0x20202024), 40);
        Check.due("read of both", x.read(), 1);
        Check.due("place in what was fed last", x.place(), 39);
        Check.due("feed of an empty tape", x.feed(0x61776172, 0x64206120, 0x66726f6d, 0x20303b20, 0x20202020), 20);
        Check.due("read of the second feed alone", x.read(), 0);
        Check.due("names", x.count(5), 1);
    }

    /** A tape of so many bytes, all of them blanks. */
    private static void blanks(WageCourt x, int bytes) {
        int b = 0x20202020;
        int feeds = (bytes + 19) / 20;
        for (int i = 0; i < feeds; i++) {
            x.feed(b, b, b, b, b);
        }
        x.back(feeds * 20 - bytes);
    }

    private static void feedUpTo2000() {
        Check.holds("Promise 2", "NONE, and nothing comes, if it would have more than 2,000.");
        int[] fit = {0, 1, 19, 20, 1979, 1980};
        for (int bytes : fit) {
            WageCourt x = new WageCourt();
            blanks(x, bytes);
            Check.due("feed of a tape of " + bytes, x.feed(0, 0, 0, 0, 0), bytes + 20);
            Check.due("bytes behind it", x.count(6), bytes + 20);
            Check.due("read", x.read(), 1);
            Check.due("place of the first byte fed", x.place(), bytes);
        }
        int[] tooMany = {1981, 1982, 1999, 2000};
        for (int bytes : tooMany) {
            Twins.refused("feed of a tape of " + bytes, c -> blanks(c, bytes), -1, c -> c.feed(0, 0, 0, 0, 0));
            WageCourt x = new WageCourt();
            blanks(x, bytes);
            Check.due("feed of a tape of " + bytes, x.feed(0, 0, 0, 0, 0), -1);
            Check.due("read of the blanks alone", x.read(), 1);
            Check.due("their end", x.place(), bytes);
        }
    }

    private static void back() {
        Check.holds("Promise 3", "The last n bytes of the tape go: how many it has.");
        WageCourt x = new WageCourt();
        Check.due("back(0) of nothing", x.back(0), 0);
        Check.tape(x, "award a from 0;$$$$$");
        Check.due("back(0)", x.back(0), 20);
        Check.due("back(1)", x.back(1), 19);
        Check.due("back(4)", x.back(4), 15);
        Check.due("read of what is left", x.read(), 0);
        Check.tape(x, "a$");
        Check.due("back(1)", x.back(1), 1);
        Check.due("named of what is left", x.named(), 0);
        blanks(x, 2000);
        Check.due("back(1) of 2,000", x.back(1), 1999);
        Check.due("back(1999)", x.back(1999), 0);
        blanks(x, 2000);
        Check.due("back(2000)", x.back(2000), 0);
        Check.tape(x, "b");
        x.back(1);
        Check.tape(x, "a");
        Check.due("what went does not come again", x.named(), 0);
    }

    private static void backRefused() {
        Check.holds("Promise 3", "NONE, and nothing goes, if it has not so many, or n is below 0.");
        int[] wrong = {-1, -20, 21, 22, 2000, Integer.MIN_VALUE, Integer.MAX_VALUE};
        for (int n : wrong) {
            Twins.refused("back(" + n + ") of twenty bytes", c -> c.feed(0x61626364, 0, 0, 0, 0), -1, c -> c.back(n));
        }
        WageCourt x = new WageCourt();
        Check.due("back(1) of nothing", x.back(1), -1);
        Check.due("back(-1) of nothing", x.back(-1), -1);
        blanks(x, 20);
        Check.due("back(19)", x.back(19), 1);
        Check.due("back(2) of one", x.back(2), -1);
        Check.due("back(1) of one", x.back(1), 0);
        Check.due("back(1) of none", x.back(1), -1);
        blanks(x, 2000);
        Check.due("back(2001) of 2,000", x.back(2001), -1);
        Check.due("bytes behind it", x.count(6), 2000);
    }

    /** NAMES a .. c, and abcdefgh as the last. */
    private static WageCourt court() {
        WageCourt x = new WageCourt();
        Check.tell(x, "award a from 0; over b; over c; over abcdefgh;");
        return x;
    }

    private static void namedEmpties() {
        Check.holds("Promise 6", "The number of the NAME that the tape, which is empty then,");
        String[] tapes = {"", "a", "  b", "zz", "a b", "$", "award d from 0;"};
        for (String tape : tapes) {
            WageCourt x = court();
            Check.tape(x, tape);
            x.named();
            Check.due("bytes behind named of '" + tape + "'", x.count(6), 0);
            Check.due("back(1) behind it", x.back(1), -1);
            Check.due("facts behind it", x.count(3), 1);
            Check.due("names behind it", x.count(5), 4);
        }
        WageCourt x = court();
        Check.fault(x, "x", 1, 0);
        Check.named(x, "$$");
        Check.due("place of the latest read", x.place(), 0);
    }

    private static void namedOneToken() {
        Check.holds("Promise 6", "is as its one TOKEN;");
        WageCourt x = court();
        Check.due("the first", Check.named(x, "a"), 0);
        Check.due("the last", Check.named(x, "abcdefgh"), 3);
        Check.due("with each blank", Check.named(x, "\t\n\r b \r\n\t"), 1);
        Check.due("with a blank ahead", Check.named(x, " c"), 2);
        Check.due("with a blank behind", Check.named(x, "c "), 2);
        Check.due("of two", Check.named(x, "a a"), -1);
        Check.due("of two names with a blank", Check.named(x, "a b"), -1);
        Check.due("of what is one longer token", Check.named(x, "ab"), -1);
        String signs = ";,+-*/<()=!.\"'\0\u000b\u000c\u007f\u0080\u00ff0A";
        for (int i = 0; i < signs.length(); i++) {
            Check.due("with byte " + (int) signs.charAt(i) + " behind", Check.named(x, "a" + signs.charAt(i)), -1);
            Check.due("with byte " + (int) signs.charAt(i) + " ahead", Check.named(x, signs.charAt(i) + "a"), -1);
            Check.due("with byte " + (int) signs.charAt(i) + " further on", Check.named(x, "a " + signs.charAt(i)), -1);
        }
    }

    private static void namedNoSuchOne() {
        Check.holds("Promise 6", "NONE: it is no such one.");
        WageCourt x = court();
        String[] none = {"", " ", "d", "abcdefg", "abcdefghi", "abcdefgg", "b1", "1", "0", "aa", "A"};
        for (String tape : none) {
            Check.due("named of '" + tape + "'", Check.named(x, tape), -1);
        }
        String[] words = {"award", "firm", "least", "who", "rate", "is", "or", "and", "not", "ticket", "each"};
        for (String word : words) {
            Check.due("named of " + word, Check.named(x, word), -1);
        }
        Check.fault(x, "award d from 0; over e", 1, 22);
        Check.due("a NAME of a text with a fault", Check.named(x, "d"), -1);
        Check.tell(x, "award d from 0;");
        Check.due("the same in a text without", Check.named(x, "d"), 4);
    }

    private static void namedLong() {
        WageCourt x = court();
        blanks(x, 1980);
        Check.tape(x, "                   b");
        Check.due("bytes", x.count(6), 2000);
        Check.due("named behind 1,999 blanks", x.named(), 1);
        blanks(x, 1980);
        Check.tape(x, "            abcdefgh");
        Check.due("named at the very end", x.named(), 3);
        Check.tape(x, "abcdefgh");
        for (int i = 0; i < 99; i++) {
            Check.tape(x, "                    ");
        }
        Check.due("bytes", x.count(6), 1988);
        Check.due("named ahead of many blanks", x.named(), 3);
        Check.tape(x, "a ".repeat(600));
        Check.due("named of 600 tokens", x.named(), -1);
        Check.tape(x, "a".repeat(2000));
        Check.due("named of 2,000 letters", x.named(), -1);
    }

    private static void namesAreFull() {
        WageCourt x = new WageCourt();
        Check.due("named while there are no names", Check.named(x, "a"), -1);
        for (int text = 0; text < 3; text++) {
            StringBuilder told = new StringBuilder(text == 0 ? "award aa from 0;" : "vary aa from 0;");
            for (int i = 20 * text; i < 20 * text + 20; i++) {
                told.append("load ").append((char) ('a' + i / 26)).append((char) ('a' + i % 26)).append(" 1;");
            }
            Check.tell(x, told.toString());
        }
        Check.due("names", x.count(5), 60);
        Check.due("named of the first", Check.named(x, "aa"), 0);
        Check.due("named of the last", Check.named(x, "ch"), 59);
        Check.due("named of one more", Check.named(x, "ci"), -1);
    }
}
