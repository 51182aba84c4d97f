/** What the tests share: answers that are due, and texts put on the tape of a court. */
final class Check {
    private static int wrong = 0;
    private static int looked = 0;
    private static String sentence = "";

    private Check() {
    }

    /** What is looked at from here on holds that sentence of the document; SentenceTest looks it up there. */
    static void holds(String part, String said) {
        sentence = "[" + part + ": " + said + "] ";
    }

    static void due(String what, long got, long want) {
        looked++;
        if (got != want) {
            wrong++;
            System.out.println(sentence + what + " answered " + got + ", due is " + want);
        }
    }

    static void due(String what, boolean got, boolean want) {
        due(what, got ? 1 : 0, want ? 1 : 0);
    }

    /** Tells how it went; the exit code is 1 if an answer was not the one that is due. */
    static void end() {
        System.out.println(looked + " answers, " + wrong + " not as due");
        if (wrong != 0 || looked == 0) {
            System.exit(1);
        }
    }

    /** Puts the text behind the tape, with nothing behind it. */
    static void tape(WageCourt court, String text) {
        byte[] bytes = text.getBytes(java.nio.charset.StandardCharsets.ISO_8859_1);
        for (int at = 0; at < bytes.length; at += 20) {
            court.feed(four(bytes, at), four(bytes, at + 4), four(bytes, at + 8), four(bytes, at + 12),
                    four(bytes, at + 16));
        }
        int over = (20 - bytes.length % 20) % 20;
        if (over != 0) {
            court.back(over);
        }
    }

    private static int four(byte[] bytes, int at) {
        int sum = 0;
        for (int i = at; i < at + 4; i++) {
            sum = sum << 8 | (i < bytes.length ? bytes[i] & 255 : 32);
        }
        return sum;
    }

    static int read(WageCourt court, String text) {
        tape(court, text);
        return court.read();
    }

    static int named(WageCourt court, String text) {
        tape(court, text);
        return court.named();
    }

    /** The text is told without a fault: its FACT. */
    static int tell(WageCourt court, String text) {
        due("read of '" + text + "'", read(court, text), 0);
        return court.count(3) - 1;
    }

    /** The text has that fault at that place. */
    static void fault(WageCourt court, String text, int number, int place) {
        String shown = text.length() > 70 ? text.substring(0, 70) + ".." : text;
        due("read of '" + shown + "'", read(court, text), number);
        due("place of the fault in '" + shown + "'", court.place(), place);
    }

    /** So many texts that nobody needs, one FACT each. */
    static void fillTexts(WageCourt court, int texts, String text) {
        for (int i = 0; i < texts; i++) {
            tell(court, text);
        }
    }

    /** FACTS that change nothing, until there are so many. */
    static void fillFacts(WageCourt court, int facts) {
        for (int i = court.count(3); i < facts; i++) {
            due("a fact that fills", court.wet(0, 139, 0), i);
        }
    }

    /** A ROW with those cells from the HALF on, NOTHING ahead of them. */
    static int row(WageCourt court, int person, int day, int half, int... cells) {
        int fact = court.row(person, day, 48);
        for (int i = 0; i < cells.length; i++) {
            court.cell(half + i, cells[i]);
        }
        return fact;
    }
}
