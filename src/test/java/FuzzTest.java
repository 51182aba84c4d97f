import java.util.Random;

/** Random runs of calls, each answered by the program and by the Oracle; arguments: first seed, runs. */
final class FuzzTest {
    private static final String[] AWARDS = {"wool", "coal", "tin", "rope"};
    private static final String[] CLASSES = {"p", "q", "r", "s"};
    private static final String[] LOADS = {"l", "m", "n", "p"};
    private static final String[] VARS = {"least", "years", "trade", "town", "who", "task", "weekday", "half",
        "worked", "week", "wet", "rate"};
    private static final String NOISE = "abz019 ;,+-*/=!<>().\n\t$Z";

    private final Random random;
    private final WageCourt x = new WageCourt();
    private final Oracle o = new Oracle();
    private final long seed;
    private final StringBuilder story = new StringBuilder();
    private int calls = 0;
    private int awards = 0;
    private final int most;
    private boolean failed = false;
    private static final java.util.TreeMap<String, int[]> SEEN = new java.util.TreeMap<>();

    private FuzzTest(long seed) {
        this.seed = seed;
        random = new Random(seed);
        most = 1 + below(4);
    }

    public static void main(String[] args) {
        long first = args.length > 0 ? Long.parseLong(args[0]) : 1;
        int runs = args.length > 1 ? Integer.parseInt(args[1]) : 400;
        int bad = 0;
        for (long seed = first; seed < first + runs && bad < 3; seed++) {
            FuzzTest test = new FuzzTest(seed);
            test.run();
            bad += test.failed ? 1 : 0;
        }
        if (args.length > 2) {
            SEEN.forEach((name, counts) -> System.out.println(name + ": " + counts[0] + " calls, " + counts[1]
                    + " above 0"));
        }
        Check.due("runs that differ from the oracle", bad, 0);
        Check.end();
    }

    private int below(int n) {
        return random.nextInt(n);
    }

    private boolean rarely(int n) {
        return random.nextInt(n) == 0;
    }

    private String one(String[] of) {
        return of[below(of.length)];
    }

    /** Mostly one of 0 .. n - 1, now and then one that is not. */
    private int index(int n) {
        if (n <= 0 || rarely(40)) {
            int[] odd = {-1, n, n + 1, -2, Integer.MAX_VALUE, Integer.MIN_VALUE, 0};
            return odd[below(odd.length)];
        }
        return below(n);
    }

    private int knownBy() {
        return rarely(4) ? index(x.count(3) + 1) : x.count(3);
    }

    private void same(String call, long got, long due) {
        calls++;
        story.append(call).append(" -> ").append(got).append('\n');
        int[] counts = SEEN.computeIfAbsent(call.substring(0, call.indexOf('(')), key -> new int[2]);
        counts[0]++;
        counts[1] += due > 0 ? 1 : 0;
        if (got != due && !failed) {
            failed = true;
            System.out.println("seed " + seed + ", call " + calls + ":\n" + story);
            System.out.println("last call: due is " + due);
        }
    }

    private static int bit(boolean is) {
        return is ? 1 : 0;
    }

    private void run() {
        int towns = 1 + below(2);
        for (int i = 0; i < towns; i++) {
            same("town()", x.town(), o.town());
        }
        for (int i = 0; i < 1 + below(3); i++) {
            int town = index(towns);
            int trade = index(8);
            same("firm(" + town + "," + trade + ")", x.firm(town, trade), o.firm(town, trade));
        }
        for (int i = 0; i < 1 + below(3); i++) {
            int firm = index(x.count(1));
            int tickets = index(256);
            int years = index(41);
            same("person(" + firm + "," + tickets + "," + years + ")", x.person(firm, tickets, years),
                    o.person(firm, tickets, years));
        }
        for (int task = 0; task < 6; task++) {
            int v = 10 + below(8);
            same("value(" + task + "," + v + ")", bit(x.value(task, v)), bit(o.value(task, v)));
        }
        while (calls < 330 && !failed) {
            if (rarely(3)) {
                ask();
            } else {
                tell();
            }
        }
        while (calls < 512 && !failed) {
            ask();
        }
    }

    // ---- texts

    private String e(int depth) {
        StringBuilder text = new StringBuilder(part(depth));
        while (rarely(3)) {
            text.append(rarely(2) ? " + " : "-").append(part(depth));
        }
        return text.toString();
    }

    private String part(int depth) {
        StringBuilder text = new StringBuilder(unit(depth));
        while (rarely(4)) {
            text.append(rarely(2) ? "*" : " / ").append(unit(depth));
        }
        return text.toString();
    }

    private String unit(int depth) {
        if (depth < 7 && rarely(10)) {
            return "(" + e(depth + 1) + ")";
        }
        if (rarely(2)) {
            return one(VARS);
        }
        return String.valueOf(rarely(15) ? 9999 : rarely(4) ? below(200) : below(12));
    }

    private String lit() {
        if (rarely(6)) {
            return "not " + lit();
        }
        if (rarely(5)) {
            return "ticket " + (rarely(20) ? index(8) & 15 : below(8));
        }
        String[] signs = {"==", "!=", "<", "<="};
        return e(0) + " " + one(signs) + " " + e(0);
    }

    private String cond() {
        StringBuilder text = new StringBuilder(lit());
        while (rarely(4)) {
            text.append(rarely(2) ? " and " : " or ").append(lit());
        }
        return text.toString();
    }

    private String binds() {
        return "binds if " + (rarely(2) ? "0 == 0" : rarely(3) ? "trade <= " + below(4) : cond()) + ";";
    }

    private String item(boolean whole) {
        switch (below(10)) {
            case 0:
                return whole || rarely(30) ? binds() : "strike " + (rarely(2) ? one(CLASSES) : one(LOADS)) + ";";
            case 1:
                return whole || rarely(30) ? "over " + one(AWARDS) + ";" : "margin " + one(CLASSES) + " is " + e(0)
                        + ";";
            case 2:
            case 3:
                return classItem();
            case 4:
                String[] ways = {"each", "most", "highest"};
                return "choose " + one(ways) + ";";
            case 5:
            case 6:
            case 7:
                return loadItem();
            case 8:
                return "round " + (rarely(20) ? index(260) : 1 + below(30)) + ";";
            default:
                return whole && !rarely(30) ? classItem() : "margin " + one(CLASSES) + " is " + below(60) + ";";
        }
    }

    private String classItem() {
        StringBuilder text = new StringBuilder("class " + (rarely(10) ? one(LOADS) : one(CLASSES)) + " tasks ");
        text.append(rarely(10) ? index(16) & 15 : below(5));
        int more = rarely(20) ? 6 + below(4) : below(4);
        for (int i = 0; i < more; i++) {
            text.append(", ").append(below(6));
        }
        if (rarely(3)) {
            text.append(" follows ").append(one(AWARDS)).append(' ').append(one(CLASSES)).append(" plus ");
        } else {
            text.append(" margin ");
        }
        return text.append(rarely(2) ? e(0) : String.valueOf(below(60))).append(";").toString();
    }

    private String loadItem() {
        StringBuilder text = new StringBuilder(rarely(2) ? "load " : "extra ");
        text.append(one(LOADS)).append(' ').append(e(0));
        if (rarely(2)) {
            text.append(" if ").append(cond());
        }
        int bars = rarely(20) ? 6 : rarely(2) ? 2 : 1;
        for (int i = 0; i < below(bars); i++) {
            text.append(" bars ").append(one(LOADS));
        }
        return text.append(";").toString();
    }

    private String text() {
        StringBuilder text = new StringBuilder();
        int kind = awards == 0 || awards < most && rarely(3) ? 0 : 1 + below(4);
        boolean whole = kind == 0 || kind == 3;
        String[] heads = {"award ", "vary ", "order ", "agree ", "vary "};
        String title = kind == 0 ? AWARDS[awards % 4] : AWARDS[below(Math.max(1, awards))];
        text.append(heads[kind]).append(rarely(30) ? one(AWARDS) : title);
        if (kind == 2 || kind == 3) {
            text.append(" firm ").append(rarely(30) ? 8 : below(2));
        }
        text.append(" from ").append(rarely(40) ? 139 + below(3) : rarely(2) ? 0 : below(15)).append(";");
        if (whole && !rarely(10)) {
            text.append(' ').append(binds());
        }
        if (kind == 0 && awards > 0 && rarely(2)) {
            text.append(" over ").append(AWARDS[below(awards)]).append(';');
        }
        if (whole) {
            text.append(classItem()).append(classItem());
        }
        int items = rarely(60) ? 29 + below(4) : below(6);
        for (int i = 0; i < items && text.length() < 1800; i++) {
            text.append(rarely(2) ? " " : "\n").append(item(whole));
        }
        if (rarely(12)) {
            int at = below(text.length());
            switch (below(3)) {
                case 0:
                    text.deleteCharAt(at);
                    break;
                case 1:
                    text.setCharAt(at, NOISE.charAt(below(NOISE.length())));
                    break;
                default:
                    text.insert(at, NOISE.charAt(below(NOISE.length())));
            }
        }
        if (rarely(40)) {
            text.setLength(below(text.length() + 1));
        }
        return text.length() > 1990 ? text.substring(0, 1990) : text.toString();
    }

    private void feedBoth(String text) {
        int from = 0;
        story.append("tape: ").append(text).append('\n');
        while (from < text.length()) {
            int[] five = new int[5];
            for (int i = 0; i < 20; i++) {
                char c = from + i < text.length() ? text.charAt(from + i) : ' ';
                five[i / 4] = five[i / 4] << 8 | c;
            }
            same("feed()", x.feed(five[0], five[1], five[2], five[3], five[4]), o.feed(five));
            from += 20;
        }
        int over = from - text.length();
        if (over > 0) {
            same("back(" + over + ")", x.back(over), o.back(over));
        }
    }

    // ---- what is told

    private void tell() {
        switch (below(13)) {
            case 0:
            case 1:
                String told = text();
                feedBoth(told);
                same("read()", x.read(), o.read());
                awards += told.startsWith("award") && x.place() == -1 ? 1 : 0;
                same("place()", x.place(), o.place());
                break;
            case 2:
            case 3:
            case 4:
            case 5:
                tellRow();
                break;
            case 6:
                int town = index(x.count(0));
                int quarter = index(4);
                int good = index(4);
                int pence = index(100);
                same("price(" + town + "," + quarter + "," + good + "," + pence + ")",
                        x.price(town, quarter, good, pence), o.price(town, quarter, good, pence));
                break;
            case 7:
                int firm = index(x.count(1));
                int day = rarely(3) ? index(140) : below(15);
                int wet = index(10);
                same("wet(" + firm + "," + day + "," + wet + ")", x.wet(firm, day, wet), o.wet(firm, day, wet));
                break;
            case 8:
            case 9:
                tellClaim();
                break;
            case 10:
                int payee = index(x.count(2));
                int week = rarely(3) ? index(20) : below(3);
                int v = rarely(10) ? 99999 - below(3) + below(6) : below(400) - 100;
                same("paid(" + payee + "," + week + "," + v + ")", x.paid(payee, week, v), o.paid(payee, week, v));
                break;
            case 11:
                int text = aText();
                int a = rarely(10) ? index(140) : below(15);
                int b = a + below(5);
                same("stay(" + text + "," + a + "," + b + ")", x.stay(text, a, b), o.stay(text, a, b));
                break;
            default:
                tellTasks();
        }
    }

    private void tellTasks() {
        int task = index(rarely(2) ? 16 : 6);
        int other = index(6);
        int v = rarely(3) ? index(1000) : 10 + below(8);
        int bits = index(256);
        boolean is = rarely(2);
        switch (below(4)) {
            case 0:
                same("marks(" + task + "," + bits + ")", bit(x.marks(task, bits)), bit(o.marks(task, bits)));
                break;
            case 1:
                same("value(" + task + "," + v + ")", bit(x.value(task, v)), bit(o.value(task, v)));
                break;
            case 2:
                same("apart(" + task + "," + other + "," + is + ")", bit(x.apart(task, other, is)),
                        bit(o.apart(task, other, is)));
                break;
            default:
                int good = index(4);
                int weight = index(10);
                same("weight(" + good + "," + weight + ")", bit(x.weight(good, weight)), bit(o.weight(good, weight)));
        }
    }

    private void tellRow() {
        int person = index(x.count(2));
        int day = rarely(6) ? index(140) : below(15);
        int cells = rarely(5) ? -1 : rarely(3) ? 48 : index(49);
        same("row(" + person + "," + day + "," + cells + ")", x.row(person, day, cells), o.row(person, day, cells));
        int half = cells > 8 ? below(cells - 6) : 0;
        for (int i = 0; i < 1 + below(6); i++) {
            int at = rarely(20) ? index(50) : half + i;
            int v = rarely(8) ? index(18) : rarely(6) ? 16 : below(6);
            same("cell(" + at + "," + v + ")", bit(x.cell(at, v)), bit(o.cell(at, v)));
        }
    }

    private void tellClaim() {
        int award = aText();
        int name = index(x.count(5));
        int v = rarely(5) ? index(10000) : below(80);
        if (rarely(2)) {
            same("log(" + award + "," + name + "," + v + ")", x.log(award, name, v), o.log(award, name, v));
        } else {
            same("answer(" + award + "," + name + "," + v + ")", x.answer(award, name, v), o.answer(award, name, v));
        }
    }

    /** Mostly the FACT of a TEXT. */
    private int aText() {
        int fact = index(x.count(3));
        for (int i = 0; i < 30 && o.award(fact) == -1; i++) {
            fact = index(x.count(3));
        }
        return fact;
    }

    // ---- what is asked

    private void ask() {
        switch (below(16)) {
            case 0:
                askFacts();
                break;
            case 1:
            case 2:
            case 3:
            case 4:
                askTexts();
                break;
            case 5:
            case 6:
            case 7:
            case 8:
            case 9:
                askHalf();
                break;
            case 10:
            case 11:
                askWeek();
                break;
            case 12:
                askAll();
                break;
            case 13:
                askParting();
                break;
            default:
                askNames();
        }
    }

    private void askNames() {
        if (rarely(3)) {
            feedBoth(rarely(2) ? one(LOADS) : rarely(2) ? " " + one(AWARDS) + " " : one(VARS));
            same("named()", x.named(), o.named());
        }
        int what = index(7);
        same("count(" + what + ")", x.count(what), o.count(what));
    }

    private void askFacts() {
        int n = knownBy();
        int town = index(x.count(0));
        int quarter = index(4);
        int good = index(4);
        int fact = index(x.count(3));
        same("priced(" + town + "," + quarter + "," + good + "," + n + ")", x.priced(town, quarter, good, n),
                o.priced(town, quarter, good, n));
        same("least(" + town + "," + quarter + "," + n + ")", x.least(town, quarter, n), o.least(town, quarter, n));
        same("kind(" + fact + ")", x.kind(fact), o.kind(fact));
        same("award(" + fact + ")", x.award(fact), o.award(fact));
    }

    private void askTexts() {
        int n = knownBy();
        int text = aText();
        int day = rarely(5) ? index(140) : below(20);
        int firm = index(x.count(1));
        int k = index(8);
        int what = index(3);
        int name = index(x.count(5));
        same("force(" + text + "," + day + "," + firm + "," + n + ")", x.force(text, day, firm, n),
                o.force(text, day, firm, n));
        same("fate(" + text + "," + k + "," + day + "," + firm + "," + n + ")", x.fate(text, k, day, firm, n),
                o.fate(text, k, day, firm, n));
        same("item(" + text + "," + day + "," + firm + "," + k + "," + n + "," + what + ")",
                x.item(text, day, firm, k, n, what), o.item(text, day, firm, k, n, what));
        same("margin(" + text + "," + name + "," + day + "," + firm + "," + n + ")",
                x.margin(text, name, day, firm, n), o.margin(text, name, day, firm, n));
    }

    private void askHalf() {
        int n = knownBy();
        int person = index(x.count(2));
        int day = below(15);
        int half = index(48);
        for (int i = 0; i < 400 && o.did(person, day, half, n) < 0 || o.did(person, day, half, n) == 16; i++) {
            if (rarely(300)) {
                break;
            }
            person = index(x.count(2));
            day = below(15);
            half = index(48);
        }
        int k = index(4);
        String at = "(" + person + "," + day + "," + half + "," + n + ")";
        same("did" + at, x.did(person, day, half, n), o.did(person, day, half, n));
        same("bound" + at, x.bound(person, day, half, n), o.bound(person, day, half, n));
        same("classed" + at, x.classed(person, day, half, n), o.classed(person, day, half, n));
        same("nearest" + at, x.nearest(person, day, half, n), o.nearest(person, day, half, n));
        same("payer" + at, x.payer(person, day, half, n), o.payer(person, day, half, n));
        same("rate" + at, x.rate(person, day, half, n), o.rate(person, day, half, n));
        same("counted" + at + "[" + k + "]", x.counted(person, day, half, k, n), o.counted(person, day, half, k, n));
        same("worth" + at, x.worth(person, day, half, n), o.worth(person, day, half, n));
    }

    private void askWeek() {
        int n = knownBy();
        int person = index(x.count(2));
        int week = rarely(5) ? index(20) : below(3);
        int b = week + below(3);
        int what = index(5);
        boolean setOff = rarely(2);
        String at = "(" + person + "," + week + "," + n + ")";
        same("pay" + at, x.pay(person, week, n), o.pay(person, week, n));
        same("halves" + at + "[" + what + "]", x.halves(person, week, n, what), o.halves(person, week, n, what));
        same("owed" + at, x.owed(person, week, n), o.owed(person, week, n));
        same("shorted" + at + "[" + b + "," + setOff + "]", x.shorted(person, week, b, setOff, n),
                o.shorted(person, week, b, setOff, n));
    }

    private void askAll() {
        int n = knownBy();
        int m = knownBy();
        if (rarely(3)) {
            same("turned(" + n + "," + m + ")", x.turned(n, m), o.turned(n, m));
            return;
        }
        int firm = rarely(3) ? -1 : index(x.count(1));
        int award = aText();
        int name = index(x.count(5));
        int v = rarely(8) ? below(3) * 9999 - 10000 : below(100) - 20;
        int a = rarely(5) ? index(20) : below(2);
        int b = a + below(3) - (rarely(10) ? 1 : 0);
        same("tried(" + firm + "," + award + "," + name + "," + v + "," + a + "," + b + "," + n + ")",
                x.tried(firm, award, name, v, a, b, n), o.tried(firm, award, name, v, a, b, n));
    }

    private void askParting() {
        int set = rarely(10) ? index(65536) : 1 + below(63);
        int k = index(8);
        int d = rarely(10) ? index(1000) : below(5);
        same("parting(" + set + "," + k + "," + d + ")", x.parting(set, k, d), o.parting(set, k, d));
        for (int i = 0; i < 3; i++) {
            int task = index(rarely(5) ? 16 : 6);
            int what = index(2);
            same("part(" + task + "," + what + ")", x.part(task, what), o.part(task, what));
        }
    }
}
