import java.util.ArrayList;
import java.util.List;
import java.util.Random;

/** Texts that are near the limits, or a TOKEN off, read by the program and by the Oracle. */
final class TextFuzzTest {
    private static final String[] SOUP = {"award", "vary", "order", "agree", "firm", "from", "binds", "if", "over",
        "class", "tasks", "margin", "follows", "plus", "choose", "each", "most", "highest", "load", "extra", "bars",
        "round", "strike", "is", "or", "and", "not", "ticket", "least", "years", "rate", "task", "a", "b", "abcdefgh",
        "abcdefghi", "0", "7", "8", "15", "16", "139", "140", "240", "241", "9999", "00001", ";", ",", "+", "-", "*",
        "/", "==", "!=", "<", "<=", "(", ")", "=", "!", ".", "A", "\u00e9", "\u0000"};

    private final Random random;
    private WageCourt x = new WageCourt();
    private Oracle o = new Oracle();
    /** Whether there are more NAMES than there is room for. */
    private boolean many;
    private final int[] seen = new int[8];

    private TextFuzzTest(long seed) {
        random = new Random(seed);
    }

    public static void main(String[] args) {
        long seed = args.length > 0 ? Long.parseLong(args[0]) : 1;
        int texts = args.length > 1 ? Integer.parseInt(args[1]) : 20000;
        TextFuzzTest test = new TextFuzzTest(seed);
        for (int i = 0; i < texts; i++) {
            test.readOne();
        }
        for (int fault = 0; fault <= 6; fault++) {
            System.out.println("texts with fault " + fault + ": " + test.seen[fault]);
            Check.due("fault " + fault + " was met", test.seen[fault] > 0, true);
        }
        Check.end();
    }

    private boolean rarely(int n) {
        return random.nextInt(n) == 0;
    }

    private void readOne() {
        if (rarely(25)) {
            renew();
        }
        List<String> tokens = new ArrayList<>();
        text(tokens);
        if (rarely(many ? 8 : 2)) {
            change(tokens);
        }
        String text = joined(tokens);
        if (text.length() > 2000) {
            text = text.substring(0, 2000);
        }
        Check.tape(x, text);
        feed(text);
        int got = x.read();
        int due = o.read();
        Check.due("read of " + text, got, due);
        Check.due("place in " + text, x.place(), o.place());
        Check.due("names behind " + text, x.count(5), o.count(5));
        Check.due("facts behind " + text, x.count(3), o.count(3));
        if (due >= 0) {
            seen[due]++;
        } else {
            renew();
        }
    }

    private void renew() {
        x = new WageCourt();
        o = new Oracle();
        many = rarely(2);
    }

    private void feed(String text) {
        int from = 0;
        while (from < text.length()) {
            int[] five = new int[5];
            for (int i = 0; i < 20; i++) {
                int c = from + i < text.length() ? text.charAt(from + i) : 32;
                five[i / 4] = five[i / 4] << 8 | c;
            }
            o.feed(five);
            from += 20;
        }
        o.back(from - text.length());
    }

    private void change(List<String> tokens) {
        for (int times = 1 + random.nextInt(2); times > 0; times--) {
            int at = random.nextInt(tokens.size());
            String odd = SOUP[random.nextInt(SOUP.length)];
            switch (random.nextInt(4)) {
                case 0:
                    tokens.add(at, odd);
                    break;
                case 1:
                    tokens.set(at, odd);
                    break;
                case 2:
                    if (tokens.size() > 1) {
                        tokens.remove(at);
                    }
                    break;
                default:
                    while (tokens.size() > Math.max(at, 1)) {
                        tokens.remove(tokens.size() - 1);
                    }
            }
        }
    }

    private String joined(List<String> tokens) {
        StringBuilder text = new StringBuilder();
        boolean wide = rarely(10);
        for (String token : tokens) {
            if (text.length() > 0 && meet(text.charAt(text.length() - 1), token.charAt(0))
                    || rarely(wide ? 2 : 30)) {
                text.append(" \t\n\r".charAt(random.nextInt(4)));
            }
            text.append(token);
        }
        if (rarely(5)) {
            text.append("   ");
        }
        return text.toString();
    }

    private static boolean meet(char a, char b) {
        return Character.isLetter(a) && Character.isLetter(b) || Character.isDigit(a) && Character.isDigit(b);
    }

    private void all(List<String> tokens, String line) {
        for (String token : line.split(" ")) {
            tokens.add(token);
        }
    }

    private String name() {
        int n = random.nextInt(many ? 70 : 12);
        return "" + (char) ('a' + n / 26) + (char) ('a' + n % 26);
    }

    private String number(int n) {
        return String.valueOf(rarely(100) ? n : random.nextInt(n));
    }

    private void text(List<String> tokens) {
        int kind = o.count(4) == 0 && !rarely(5) ? 0 : random.nextInt(4);
        String[] heads = {"award", "vary", "order", "agree"};
        all(tokens, heads[kind]);
        all(tokens, o.count(4) > 0 && rarely(many ? 4 : 2) && kind == 0 ? name() : "aa");
        if (kind >= 2) {
            all(tokens, "firm " + number(8));
        }
        all(tokens, "from " + number(140) + " ;");
        int items = rarely(many ? 20 : 4) ? 29 + random.nextInt(3) : random.nextInt(8);
        boolean small = items > 8 && !rarely(3);
        for (int i = 0; i < items; i++) {
            item(tokens, kind == 0 || kind == 3, small);
        }
        if (rarely(many ? 20 : 4)) {
            fillUp(tokens);
        }
    }

    /** A last ITEM that brings the text to some 500 TOKENS. */
    private void fillUp(List<String> tokens) {
        all(tokens, "load " + name());
        int upTo = 494 + random.nextInt(9);
        all(tokens, "1");
        if (rarely(2)) {
            all(tokens, "if");
            while (tokens.size() < upTo - 4) {
                all(tokens, "not");
            }
            all(tokens, "1 == 1");
        } else {
            while (tokens.size() < upTo - 2) {
                all(tokens, "+ 1");
            }
        }
        if (rarely(3)) {
            all(tokens, "bars " + name());
        }
        all(tokens, ";");
    }

    private void item(List<String> tokens, boolean whole, boolean small) {
        int kind = small ? 6 + random.nextInt(2) : random.nextInt(8);
        boolean odd = rarely(60);
        switch (kind) {
            case 0:
                if (whole != odd) {
                    all(tokens, "binds if");
                    cond(tokens);
                } else {
                    all(tokens, "strike " + name());
                }
                break;
            case 1:
                if (whole != odd) {
                    all(tokens, "over " + name());
                } else {
                    all(tokens, "margin " + name() + " is");
                    e(tokens, 0);
                }
                break;
            case 2:
            case 3:
                classItem(tokens);
                break;
            case 4:
            case 5:
                loadItem(tokens);
                break;
            case 6:
                all(tokens, "round " + (rarely(100) ? "0" : rarely(100) ? "241" : "240"));
                break;
            default:
                all(tokens, "choose most");
        }
        all(tokens, ";");
    }

    private void classItem(List<String> tokens) {
        all(tokens, "class " + name() + " tasks " + number(16));
        for (int more = rarely(8) ? 7 + random.nextInt(2) : random.nextInt(3); more > 0; more--) {
            all(tokens, ", " + number(16));
        }
        all(tokens, rarely(2) ? "margin" : "follows " + name() + " " + name() + " plus");
        e(tokens, 0);
    }

    private void loadItem(List<String> tokens) {
        all(tokens, (rarely(2) ? "load " : "extra ") + name());
        e(tokens, 0);
        if (rarely(2)) {
            all(tokens, "if");
            cond(tokens);
        }
        for (int bars = rarely(8) ? 4 + random.nextInt(2) : random.nextInt(3); bars > 0; bars--) {
            all(tokens, "bars " + name());
        }
    }

    private void cond(List<String> tokens) {
        lit(tokens);
        while (rarely(3)) {
            all(tokens, rarely(2) ? "and" : "or");
            lit(tokens);
        }
    }

    private void lit(List<String> tokens) {
        while (rarely(4)) {
            all(tokens, "not");
        }
        if (rarely(3)) {
            all(tokens, "ticket " + number(8));
            return;
        }
        e(tokens, 0);
        String[] signs = {"==", "!=", "<", "<="};
        all(tokens, signs[random.nextInt(4)]);
        e(tokens, 0);
    }

    private void e(List<String> tokens, int depth) {
        unit(tokens, depth);
        while (rarely(4)) {
            String[] signs = {"+", "-", "*", "/"};
            all(tokens, signs[random.nextInt(4)]);
            unit(tokens, depth);
        }
    }

    private void unit(List<String> tokens, int depth) {
        if (rarely(depth == 0 ? many ? 20 : 8 : 2) && depth < 8) {
            all(tokens, "(");
            e(tokens, depth + 1);
            all(tokens, ")");
        } else {
            all(tokens, rarely(2) ? "years" : number(9999));
        }
    }
}
