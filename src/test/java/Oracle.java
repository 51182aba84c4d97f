import java.util.ArrayList;
import java.util.HashMap;
import java.util.HashSet;
import java.util.List;
import java.util.Map;
import java.util.Set;
import java.util.TreeMap;

/**
 * The document told a second time, without thrift: trees instead of steps, exceptions for faults, and every
 * question reckoned from the facts alone. FuzzTest compares the program with it.
 */
final class Oracle {
    private static final class Fault extends RuntimeException {
        final int number;
        final int place;

        Fault(int number, int place) {
            super(null, null, false, false);
            this.number = number;
            this.place = place;
        }
    }

    private static final class ByZero extends RuntimeException {
        ByZero() {
            super(null, null, false, false);
        }
    }

    private interface Tree {
        int value(Map<String, Integer> vars, int tickets);
    }

    private static final class Token {
        String kind;
        String text;
        int place;
    }

    static final class Item {
        String kind;
        String name;
        Set<Integer> tasks = new HashSet<>();
        String tieAward;
        String tieClass;
        Tree sum;
        Tree cond;
        Set<String> bars = new HashSet<>();
        String choose;
        int round;
    }

    static final class Text {
        int kind;
        String name;
        int firm = -1;
        int from;
        List<Item> items = new ArrayList<>();
        int fact;
        int award;
    }

    static final class Fact {
        int kind;
        int[] args;
        int[] cells;
        Text text;
    }

    /** A class, load or extra as it stands, with the ITEM that tells its margin. */
    private static final class Entry {
        Item item;
        Item margin;
        int teller;
    }

    private static final class Award {
        List<Entry> entries = new ArrayList<>();
        String choose = "each";
        int round = 1;
        Map<Item, Integer> fates = new HashMap<>();

        Entry find(String name) {
            for (Entry entry : entries) {
                if (entry.item.name.equals(name)) {
                    return entry;
                }
            }
            return null;
        }
    }

    private static final Set<String> WORDS = Set.of("award", "vary", "order", "firm", "agree", "from", "binds", "if",
            "over", "class", "tasks", "margin", "follows", "plus", "choose", "each", "most", "highest", "load",
            "extra", "bars", "round", "strike", "is", "or", "and", "not", "ticket", "least", "years", "trade", "town",
            "who", "task", "weekday", "half", "worked", "week", "wet", "rate");
    private static final Set<String> VARS = Set.of("least", "years", "trade", "town", "who", "task", "weekday", "half",
            "worked", "week", "wet", "rate");

    private final StringBuilder tape = new StringBuilder();
    private int place = -1;
    private final List<String> names = new ArrayList<>();
    private final List<Fact> facts = new ArrayList<>();
    private int towns;
    private final List<int[]> firms = new ArrayList<>();
    private final List<int[]> people = new ArrayList<>();
    private final int[] marks = new int[16];
    private final int[] weights = {1, 1, 1, 1};
    private final int[] values = new int[16];
    private final boolean[][] apart = new boolean[16][16];
    private final Map<Integer, int[]> parted = new HashMap<>();
    private int triedAward = -1;
    private String triedName;
    private int triedMargin;

    // ---- the tape and the texts

    int feed(int... five) {
        if (tape.length() + 20 > 2000) {
            return -1;
        }
        for (int four : five) {
            for (int i = 3; i >= 0; i--) {
                tape.append((char) (four >>> 8 * i & 255));
            }
        }
        return tape.length();
    }

    int back(int n) {
        if (n < 0 || n > tape.length()) {
            return -1;
        }
        tape.setLength(tape.length() - n);
        return tape.length();
    }

    private static List<Token> tokens(String text) {
        List<Token> all = new ArrayList<>();
        int i = 0;
        while (true) {
            while (i < text.length() && " \t\n\r".indexOf(text.charAt(i)) >= 0) {
                i++;
            }
            Token token = new Token();
            token.place = i;
            all.add(token);
            if (i == text.length()) {
                token.kind = "end";
                return all;
            }
            int j = i;
            while (j < text.length() && text.charAt(j) >= 'a' && text.charAt(j) <= 'z') {
                j++;
            }
            if (j > i) {
                token.text = text.substring(i, j);
                token.kind = j - i > 8 ? "none" : WORDS.contains(token.text) ? token.text : "NAME";
                i = j;
                continue;
            }
            while (j < text.length() && text.charAt(j) >= '0' && text.charAt(j) <= '9') {
                j++;
            }
            if (j > i) {
                token.text = text.substring(i, j);
                token.kind = j - i > 4 ? "none" : "INT";
                i = j;
                continue;
            }
            String two = text.substring(i, Math.min(i + 2, text.length()));
            if (two.equals("==") || two.equals("!=") || two.equals("<=")) {
                token.kind = two;
                i += 2;
            } else if (";,+-*/<()".indexOf(text.charAt(i)) >= 0) {
                token.kind = two.substring(0, 1);
                i++;
            } else {
                token.kind = "none";
                i++;
            }
        }
    }

    private final class Reader {
        final List<Token> all;
        final Text text = new Text();
        final List<Token> nameTokens = new ArrayList<>();
        final TreeMap<Integer, Integer> late = new TreeMap<>();
        int at;

        Reader(String source) {
            all = tokens(source);
        }

        boolean is(String kind) {
            return all.get(at).kind.equals(kind);
        }

        RuntimeException syntax() {
            return new Fault(1, all.get(at).place);
        }

        RuntimeException room() {
            return new Fault(2, all.get(at).place);
        }

        Token take(String kind) {
            if (!is(kind)) {
                throw syntax();
            }
            if (at == 500) {
                throw room();
            }
            return all.get(at++);
        }

        int takeInt(int low, int high) {
            Token token = take("INT");
            int v = Integer.parseInt(token.text);
            if (v < low || v > high) {
                late.putIfAbsent(token.place, 5);
            }
            return v;
        }

        String takeName() {
            Token token = take("NAME");
            nameTokens.add(token);
            return token.text;
        }

        void readAll() {
            List<String> heads = List.of("award", "vary", "order", "agree");
            if (!heads.contains(all.get(at).kind)) {
                throw syntax();
            }
            text.kind = heads.indexOf(all.get(at).kind);
            take(all.get(at).kind);
            int titlePlace = all.get(at).place;
            text.name = takeName();
            Text award = awardNamed(text.name, facts.size());
            if (text.kind == 0 && award != null) {
                late.put(titlePlace, 3);
            }
            if (text.kind != 0 && award == null) {
                late.put(titlePlace, 4);
            }
            text.fact = facts.size();
            text.award = text.kind == 0 || award == null ? text.fact : award.fact;
            if (text.kind >= 2) {
                take("firm");
                text.firm = takeInt(0, 7);
            }
            take("from");
            text.from = takeInt(0, 139);
            take(";");
            while (!is("end")) {
                readItem();
            }
        }

        void readItem() {
            List<String> kinds = List.of("binds", "over", "class", "choose", "load", "extra", "round", "strike",
                    "margin");
            Item item = new Item();
            item.kind = all.get(at).kind;
            if (!kinds.contains(item.kind)) {
                throw syntax();
            }
            if (text.items.size() == 30) {
                throw room();
            }
            boolean own = text.kind == 0 || text.kind == 3;
            if (own ? item.kind.equals("strike") || item.kind.equals("margin")
                    : item.kind.equals("binds") || item.kind.equals("over")) {
                late.put(all.get(at).place, 5);
            }
            take(item.kind);
            switch (item.kind) {
                case "binds" -> {
                    take("if");
                    item.cond = cond();
                }
                case "over", "strike" -> item.name = takeName();
                case "class" -> readClass(item);
                case "choose" -> {
                    item.choose = all.get(at).kind;
                    if (!List.of("each", "most", "highest").contains(item.choose)) {
                        throw syntax();
                    }
                    take(item.choose);
                }
                case "round" -> item.round = takeInt(1, 240);
                case "margin" -> {
                    item.name = takeName();
                    take("is");
                    item.sum = sum(0);
                }
                default -> readLoad(item);
            }
            take(";");
            text.items.add(item);
        }

        void readClass(Item item) {
            item.name = takeName();
            take("tasks");
            item.tasks.add(takeInt(0, 15));
            int count = 1;
            while (is(",")) {
                take(",");
                if (is("INT") && count == 8) {
                    throw room();
                }
                item.tasks.add(takeInt(0, 15));
                count++;
            }
            if (is("margin")) {
                take("margin");
            } else {
                take("follows");
                item.tieAward = takeName();
                item.tieClass = takeName();
                take("plus");
            }
            item.sum = sum(0);
        }

        void readLoad(Item item) {
            item.name = takeName();
            item.sum = sum(0);
            if (is("if")) {
                take("if");
                item.cond = cond();
            }
            int count = 0;
            while (is("bars")) {
                take("bars");
                if (is("NAME") && count == 4) {
                    throw room();
                }
                item.bars.add(takeName());
                count++;
            }
        }

        Tree cond() {
            Tree left = allOf();
            while (is("or")) {
                take("or");
                Tree a = left;
                Tree b = allOf();
                left = (vars, tickets) -> a.value(vars, tickets) != 0 || b.value(vars, tickets) != 0 ? 1 : 0;
            }
            return left;
        }

        Tree allOf() {
            Tree left = lit();
            while (is("and")) {
                take("and");
                Tree a = left;
                Tree b = lit();
                left = (vars, tickets) -> a.value(vars, tickets) != 0 && b.value(vars, tickets) != 0 ? 1 : 0;
            }
            return left;
        }

        Tree lit() {
            if (is("not")) {
                take("not");
                Tree inner = lit();
                return (vars, tickets) -> inner.value(vars, tickets) == 0 ? 1 : 0;
            }
            if (is("ticket")) {
                take("ticket");
                int bit = takeInt(0, 7);
                return (vars, tickets) -> tickets >> bit & 1;
            }
            Tree left = sum(0);
            String sign = all.get(at).kind;
            if (!List.of("==", "!=", "<", "<=").contains(sign)) {
                throw syntax();
            }
            take(sign);
            Tree right = sum(0);
            return (vars, tickets) -> compared(sign, left, right, vars) ? 1 : 0;
        }

        boolean compared(String sign, Tree left, Tree right, Map<String, Integer> vars) {
            try {
                long a = left.value(vars, 0);
                long b = right.value(vars, 0);
                return switch (sign) {
                    case "==" -> a == b;
                    case "!=" -> a != b;
                    case "<" -> a < b;
                    default -> a <= b;
                };
            } catch (ByZero zero) {
                return false;
            }
        }

        Tree sum(int depth) {
            Tree left = product(depth);
            while (is("+") || is("-")) {
                boolean plus = is("+");
                take(plus ? "+" : "-");
                Tree a = left;
                Tree b = product(depth);
                left = (vars, t) -> (int) (plus ? (long) a.value(vars, t) + b.value(vars, t)
                        : (long) a.value(vars, t) - b.value(vars, t));
            }
            return left;
        }

        Tree product(int depth) {
            Tree left = unit(depth);
            while (is("*") || is("/")) {
                boolean times = is("*");
                take(times ? "*" : "/");
                Tree a = left;
                Tree b = unit(depth);
                left = (vars, t) -> {
                    long x = a.value(vars, t);
                    long y = b.value(vars, t);
                    if (times) {
                        return (int) (x * y);
                    }
                    if (y == 0) {
                        throw new ByZero();
                    }
                    return (int) (x / y);
                };
            }
            return left;
        }

        Tree unit(int depth) {
            if (is("INT")) {
                int v = Integer.parseInt(take("INT").text);
                return (vars, t) -> v;
            }
            if (VARS.contains(all.get(at).kind)) {
                String name = take(all.get(at).kind).text;
                return (vars, t) -> vars.getOrDefault(name, 0);
            }
            if (is("(") && depth == 6) {
                throw room();
            }
            take("(");
            Tree inner = sum(depth + 1);
            take(")");
            return inner;
        }
    }

    int read() {
        if (facts.size() == 160 || texts(160).size() == 24) {
            return -2;
        }
        Reader reader = new Reader(tape.toString());
        tape.setLength(0);
        place = -1;
        try {
            reader.readAll();
            if (!reader.late.isEmpty()) {
                throw new Fault(reader.late.firstEntry().getValue(), reader.late.firstKey());
            }
            List<String> more = new ArrayList<>(names);
            for (Token token : reader.nameTokens) {
                if (!more.contains(token.text)) {
                    more.add(token.text);
                    if (more.size() > 60) {
                        throw new Fault(6, token.place);
                    }
                }
            }
            names.clear();
            names.addAll(more);
        } catch (Fault fault) {
            place = fault.place;
            return fault.number;
        }
        Fact fact = new Fact();
        fact.kind = reader.text.kind;
        fact.text = reader.text;
        facts.add(fact);
        return 0;
    }

    int place() {
        return place;
    }

    int named() {
        List<Token> all = tokens(tape.toString());
        tape.setLength(0);
        return all.size() == 2 && all.get(0).kind.equals("NAME") ? names.indexOf(all.get(0).text) : -1;
    }

    // ---- the land and the facts

    private static boolean in(int v, int low, int high) {
        return low <= v && v <= high;
    }

    private boolean known(int n) {
        return in(n, 0, facts.size());
    }

    private boolean hasFirm(int firm) {
        return in(firm, 0, firms.size() - 1);
    }

    private boolean hasPerson(int person) {
        return in(person, 0, people.size() - 1);
    }

    int town() {
        return towns == 5 ? -1 : towns++;
    }

    int firm(int town, int trade) {
        if (firms.size() == 8 || !in(town, 0, towns - 1) || !in(trade, 0, 7)) {
            return -1;
        }
        firms.add(new int[] {town, trade});
        return firms.size() - 1;
    }

    int person(int firm, int tickets, int years) {
        if (people.size() == 10 || !hasFirm(firm) || !in(tickets, 0, 255) || !in(years, 0, 40)) {
            return -1;
        }
        people.add(new int[] {firm, tickets, years});
        return people.size() - 1;
    }

    boolean marks(int task, int bits) {
        if (!in(task, 0, 15) || !in(bits, 0, 255)) {
            return false;
        }
        marks[task] = bits;
        return true;
    }

    boolean weight(int good, int v) {
        if (!in(good, 0, 3) || !in(v, 0, 9)) {
            return false;
        }
        weights[good] = v;
        return true;
    }

    private int add(boolean well, int kind, int... args) {
        if (!well || facts.size() == 160) {
            return -1;
        }
        Fact fact = new Fact();
        fact.kind = kind;
        fact.args = args;
        facts.add(fact);
        return facts.size() - 1;
    }

    int price(int town, int quarter, int good, int v) {
        return add(in(town, 0, towns - 1) && in(quarter, 0, 3) && in(good, 0, 3) && in(v, 0, 99), 4, town, quarter,
                good, v);
    }

    int wet(int firm, int day, int v) {
        return add(hasFirm(firm) && in(day, 0, 139) && in(v, 0, 9), 5, firm, day, v);
    }

    int row(int person, int day, int n) {
        int fact = add(hasPerson(person) && in(day, 0, 139) && (n == -1 || in(n, 1, 48)), 6, person, day, n);
        if (fact >= 0) {
            facts.get(fact).cells = new int[Math.max(n, 0)];
            java.util.Arrays.fill(facts.get(fact).cells, -1);
        }
        return fact;
    }

    boolean cell(int i, int v) {
        if (facts.isEmpty() || !in(v, -1, 16)) {
            return false;
        }
        Fact last = facts.get(facts.size() - 1);
        if (last.kind != 6 || !in(i, 0, last.cells.length - 1)) {
            return false;
        }
        last.cells[i] = v;
        return true;
    }

    private boolean isAward(int award, int n) {
        return in(award, 0, n - 1) && facts.get(award).kind == 0;
    }

    private boolean isText(int text, int n) {
        return in(text, 0, n - 1) && facts.get(text).text != null;
    }

    int log(int award, int name, int v) {
        return add(isAward(award, facts.size()) && in(name, 0, names.size() - 1) && in(v, 0, 9999), 7, award, name, v);
    }

    int answer(int award, int name, int v) {
        return add(isAward(award, facts.size()) && in(name, 0, names.size() - 1) && in(v, 0, 9999), 8, award, name, v);
    }

    int paid(int person, int week, int v) {
        return add(hasPerson(person) && in(week, 0, 19) && in(v, -99999, 99999), 9, person, week, v);
    }

    int stay(int text, int a, int b) {
        return add(isText(text, facts.size()) && 0 <= a && a < b && b <= 140, 10, text, a, b);
    }

    int priced(int town, int quarter, int good, int n) {
        if (!in(town, 0, towns - 1) || !in(quarter, 0, 3) || !in(good, 0, 3) || !known(n)) {
            return -1;
        }
        for (int q = quarter; q >= 0; q--) {
            for (int i = n - 1; i >= 0; i--) {
                Fact f = facts.get(i);
                if (f.kind == 4 && f.args[0] == town && f.args[1] == q && f.args[2] == good) {
                    return f.args[3];
                }
            }
        }
        return 0;
    }

    int least(int town, int quarter, int n) {
        if (!in(town, 0, towns - 1) || !in(quarter, 0, 3) || !known(n)) {
            return -1;
        }
        int sum = 0;
        for (int good = 0; good < 4; good++) {
            sum += weights[good] * priced(town, quarter, good, n);
        }
        return sum;
    }

    int kind(int fact) {
        return in(fact, 0, facts.size() - 1) ? facts.get(fact).kind : -1;
    }

    int award(int text) {
        return isText(text, facts.size()) ? facts.get(text).text.award : -1;
    }

    private List<Text> texts(int n) {
        List<Text> all = new ArrayList<>();
        for (int i = 0; i < Math.min(n, facts.size()); i++) {
            if (facts.get(i).text != null) {
                all.add(facts.get(i).text);
            }
        }
        return all;
    }

    private Text awardNamed(String name, int n) {
        for (Text text : texts(n)) {
            if (text.kind == 0 && text.name.equals(name)) {
                return text;
            }
        }
        return null;
    }

    // ---- in force

    private boolean inForce(Text text, int day, int firm, int n) {
        if (text.fact >= n || day < text.from || text.firm != -1 && text.firm != firm) {
            return false;
        }
        for (int i = 0; i < n; i++) {
            Fact f = facts.get(i);
            if (f.kind == 10 && f.args[0] == text.fact && in(day, f.args[1], f.args[2] - 1)) {
                return false;
            }
        }
        return true;
    }

    int force(int text, int day, int firm, int n) {
        if (!known(n) || !isText(text, n) || !in(day, 0, 139) || !hasFirm(firm)) {
            return -1;
        }
        return inForce(facts.get(text).text, day, firm, n) ? 1 : 0;
    }

    private Map<String, Integer> firmVars(int day, int firm, int n, int years) {
        Map<String, Integer> vars = new HashMap<>();
        int town = firms.get(firm)[0];
        vars.put("least", least(town, day / 35, n));
        vars.put("years", years);
        vars.put("trade", firms.get(firm)[1]);
        vars.put("town", town);
        vars.put("who", firm);
        return vars;
    }

    private static int number(Tree tree, Map<String, Integer> vars) {
        try {
            return tree.value(vars, 0);
        } catch (ByZero zero) {
            return 0;
        }
    }

    private Award asItIs(Text text, int day, int firm, int n) {
        List<Text> told = new ArrayList<>();
        for (Text other : texts(n)) {
            boolean changes = other.kind == 1 || other.kind == 2;
            if (text.kind == 0 && changes && other.award == text.fact && inForce(other, day, firm, n)) {
                told.add(other);
            }
        }
        told.sort((a, b) -> a.from != b.from ? Integer.compare(a.from, b.from) : Integer.compare(a.fact, b.fact));
        told.add(0, text);
        Award award = new Award();
        for (Text other : told) {
            for (Item item : other.items) {
                award.fates.put(item, apply(award, item, other, day, firm, n));
            }
        }
        return award;
    }

    private int apply(Award award, Item item, Text teller, int day, int firm, int n) {
        Entry old = item.name == null ? null : award.find(item.name);
        switch (item.kind) {
            case "class", "load", "extra" -> {
                Entry entry = new Entry();
                entry.item = item;
                entry.margin = item;
                entry.teller = teller.fact;
                if (old == null) {
                    award.entries.add(entry);
                } else {
                    award.entries.set(award.entries.indexOf(old), entry);
                }
            }
            case "choose" -> award.choose = item.choose;
            case "round" -> award.round = item.round;
            case "strike" -> {
                if (old == null) {
                    return 2;
                }
                award.entries.remove(old);
            }
            case "margin" -> {
                if (old == null || !old.item.kind.equals("class")) {
                    return 2;
                }
                Integer log = null;
                Integer answer = null;
                for (int i = 0; i < Math.min(n, teller.fact); i++) {
                    Fact f = facts.get(i);
                    boolean here = (f.kind == 7 || f.kind == 8) && f.args[0] == teller.award
                            && names.get(f.args[1]).equals(item.name);
                    if (here && f.kind == 7) {
                        log = f.args[2];
                    } else if (here) {
                        answer = f.args[2];
                    }
                }
                int v = number(item.sum, firmVars(day, firm, n, 0));
                if (log == null || answer == null || v < Math.min(log, answer) || v > Math.max(log, answer)) {
                    return 3;
                }
                old.margin = item;
            }
            default -> {
            }
        }
        return 0;
    }

    int fate(int text, int k, int day, int firm, int n) {
        int force = force(text, day, firm, n);
        if (force == -1 || !in(k, 0, facts.get(text).text.items.size() - 1)) {
            return -1;
        }
        Text one = facts.get(text).text;
        if (force == 0) {
            return 1;
        }
        if (one.kind == 0 || one.kind == 3) {
            return 0;
        }
        Text award = facts.get(one.award).text;
        return inForce(award, day, firm, n) ? asItIs(award, day, firm, n).fates.get(one.items.get(k)) : 1;
    }

    int item(int text, int day, int firm, int k, int n, int what) {
        if (force(text, day, firm, n) != 1 || !in(what, 0, 2)) {
            return -1;
        }
        Text one = facts.get(text).text;
        if (one.kind == 1 || one.kind == 2) {
            return -1;
        }
        Award award = asItIs(one, day, firm, n);
        if (!in(k, 0, award.entries.size() - 1)) {
            return -1;
        }
        Entry entry = award.entries.get(k);
        return what == 0 ? List.of("class", "load", "extra").indexOf(entry.item.kind)
                : what == 1 ? names.indexOf(entry.item.name) : entry.teller;
    }

    private int rawMargin(Text text, String name, int day, int firm, int n, int years, Set<String> by) {
        if (text == null || !inForce(text, day, firm, n)) {
            return 0;
        }
        Entry entry = asItIs(text, day, firm, n).find(name);
        if (entry == null || !entry.item.kind.equals("class") || !by.add(text.fact + " " + name)) {
            return 0;
        }
        if (text.fact == triedAward && name.equals(triedName)) {
            return triedMargin;
        }
        int sum = number(entry.margin.sum, firmVars(day, firm, n, years));
        if (entry.margin.tieAward == null) {
            return sum;
        }
        return sum + rawMargin(awardNamed(entry.margin.tieAward, n), entry.margin.tieClass, day, firm, n, years, by);
    }

    private int margin(Text text, String name, int day, int firm, int n, int years) {
        return Math.max(-9999, Math.min(9999, rawMargin(text, name, day, firm, n, years, new HashSet<>())));
    }

    int margin(int text, int name, int day, int firm, int n) {
        if (force(text, day, firm, n) != 1 || !in(name, 0, names.size() - 1)) {
            return -1000000;
        }
        Text one = facts.get(text).text;
        if (one.kind == 1 || one.kind == 2) {
            return -1000000;
        }
        Entry entry = asItIs(one, day, firm, n).find(names.get(name));
        if (entry == null || !entry.item.kind.equals("class")) {
            return -1000000;
        }
        return margin(one, names.get(name), day, firm, n, 0);
    }

    // ---- halves

    private boolean isHalf(int person, int day, int half, int n) {
        return hasPerson(person) && in(day, 0, 139) && in(half, 0, 47) && known(n);
    }

    int did(int person, int day, int half, int n) {
        if (!isHalf(person, day, half, n)) {
            return -3;
        }
        for (int i = n - 1; i >= 0; i--) {
            Fact f = facts.get(i);
            if (f.kind == 6 && f.args[0] == person && f.args[1] == day) {
                return half < f.cells.length ? f.cells[half] : -2;
            }
        }
        return -1;
    }

    private boolean hasTask(int person, int day, int half, int n) {
        return in(did(person, day, half, n), 0, 15);
    }

    private Map<String, Integer> halfVars(int person, int day, int half, int n) {
        int firm = people.get(person)[0];
        Map<String, Integer> vars = firmVars(day, firm, n, people.get(person)[2]);
        int worked = 0;
        int week = 0;
        for (int d = day / 7 * 7; d <= day; d++) {
            for (int h = 0; h < (d == day ? half : 48); h++) {
                if (hasTask(person, d, h, n)) {
                    week++;
                    worked += d == day ? 1 : 0;
                }
            }
        }
        vars.put("worked", worked);
        vars.put("week", week);
        vars.put("task", did(person, day, half, n));
        vars.put("weekday", day % 7);
        vars.put("half", half);
        int wet = 0;
        for (int i = 0; i < n; i++) {
            Fact f = facts.get(i);
            if (f.kind == 5 && f.args[0] == firm && f.args[1] == day) {
                wet = f.args[2];
            }
        }
        vars.put("wet", wet);
        return vars;
    }

    private boolean binds(Text text, int person, int day, int half, int n) {
        Map<String, Integer> vars = halfVars(person, day, half, n);
        for (Item item : text.items) {
            if (item.kind.equals("binds") && item.cond.value(vars, people.get(person)[1]) != 0) {
                return true;
            }
        }
        return false;
    }

    int bound(int person, int day, int half, int n) {
        if (!isHalf(person, day, half, n) || !hasTask(person, day, half, n)) {
            return -1;
        }
        List<Text> binding = new ArrayList<>();
        for (Text text : texts(n)) {
            if (text.kind == 0 && inForce(text, day, people.get(person)[0], n) && binds(text, person, day, half, n)) {
                binding.add(text);
            }
        }
        if (binding.isEmpty()) {
            return -1;
        }
        List<Text> left = new ArrayList<>();
        for (Text text : binding) {
            boolean out = false;
            for (Text other : binding) {
                for (Item item : other.items) {
                    out |= other != text && item.kind.equals("over") && item.name.equals(text.name);
                }
            }
            if (!out) {
                left.add(text);
            }
        }
        return left.size() == 1 ? left.get(0).fact : -2;
    }

    private static Entry byEach(Award award, int task) {
        for (Entry entry : award.entries) {
            if (entry.item.kind.equals("class") && entry.item.tasks.contains(task)) {
                return entry;
            }
        }
        return null;
    }

    /** The agree that a HALF is looked at by; null without. */
    private Text agreeOf(int person, int day, int half, int n) {
        int award = bound(person, day, half, n);
        Text last = null;
        for (Text text : texts(n)) {
            if (award >= 0 && text.kind == 3 && text.award == award && inForce(text, day, people.get(person)[0], n)
                    && binds(text, person, day, half, n) && (last == null || text.from >= last.from)) {
                last = text;
            }
        }
        return last;
    }

    private Text lookedAtBy(boolean byAgree, int person, int day, int half, int n) {
        if (byAgree) {
            return agreeOf(person, day, half, n);
        }
        int award = bound(person, day, half, n);
        return award < 0 ? null : facts.get(award).text;
    }

    private Entry classOf(boolean byAgree, int person, int day, int half, int n) {
        Text text = lookedAtBy(byAgree, person, day, half, n);
        if (text == null) {
            return null;
        }
        int firm = people.get(person)[0];
        int years = people.get(person)[2];
        Award award = asItIs(text, day, firm, n);
        Entry own = byEach(award, did(person, day, half, n));
        if (own == null || award.choose.equals("each")) {
            return own;
        }
        Map<String, Integer> halves = new HashMap<>();
        for (int h = 0; h < 48; h++) {
            if (lookedAtBy(byAgree, person, day, h, n) == text) {
                Entry each = byEach(award, did(person, day, h, n));
                if (each != null) {
                    halves.merge(each.item.name, 1, Integer::sum);
                }
            }
        }
        Entry best = null;
        for (Entry entry : award.entries) {
            if (!halves.containsKey(entry.item.name)) {
                continue;
            }
            if (best == null) {
                best = entry;
                continue;
            }
            int more = award.choose.equals("most") ? halves.get(entry.item.name) - halves.get(best.item.name) : 0;
            int greater = Integer.compare(margin(text, entry.item.name, day, firm, n, years),
                    margin(text, best.item.name, day, firm, n, years));
            if (more > 0 || more == 0 && greater > 0) {
                best = entry;
            }
        }
        return best;
    }

    int classed(int person, int day, int half, int n) {
        if (!isHalf(person, day, half, n)) {
            return -1;
        }
        Entry entry = classOf(false, person, day, half, n);
        return entry == null ? -1 : names.indexOf(entry.item.name);
    }

    int nearest(int person, int day, int half, int n) {
        int award = bound(person, day, half, n);
        if (award < 0 || classed(person, day, half, n) != -1) {
            return -1;
        }
        int best = 0;
        int found = -1;
        for (Entry entry : asItIs(facts.get(award).text, day, people.get(person)[0], n).entries) {
            if (entry.item.kind.equals("class")) {
                for (int task : entry.item.tasks) {
                    int common = Integer.bitCount(marks[task] & marks[did(person, day, half, n)]);
                    if (common > best) {
                        best = common;
                        found = names.indexOf(entry.item.name);
                    }
                }
            }
        }
        return found;
    }

    /** WORTH, RATE, and the NAMES that counted. */
    private int[] reckoned(boolean byAgree, int person, int day, int half, int n) {
        Entry own = classOf(byAgree, person, day, half, n);
        if (own == null) {
            return new int[] {0, 0};
        }
        Text text = lookedAtBy(byAgree, person, day, half, n);
        int firm = people.get(person)[0];
        Map<String, Integer> vars = halfVars(person, day, half, n);
        int rate = Math.max(0, vars.get("least")
                + margin(text, own.item.name, day, firm, n, people.get(person)[2]));
        vars.put("rate", rate);
        int loads = 0;
        int extras = 0;
        Set<String> barred = new HashSet<>();
        List<Integer> counted = new ArrayList<>();
        for (Entry entry : asItIs(text, day, firm, n).entries) {
            Item item = entry.item;
            if (item.kind.equals("class") || barred.contains(item.name)
                    || item.cond != null && item.cond.value(vars, people.get(person)[1]) == 0) {
                continue;
            }
            barred.addAll(item.bars);
            counted.add(names.indexOf(item.name));
            int v = number(item.sum, vars);
            if (item.kind.equals("load")) {
                loads += Math.max(-100, Math.min(400, v));
            } else {
                extras += Math.max(0, Math.min(999, v));
            }
        }
        int[] all = new int[2 + counted.size()];
        all[0] = rate * Math.max(0, Math.min(1000, 100 + loads)) + 200 * Math.min(9999, extras);
        all[1] = rate;
        for (int i = 0; i < counted.size(); i++) {
            all[2 + i] = counted.get(i);
        }
        return all;
    }

    private boolean agreePays(int person, int day, int half, int n) {
        return reckoned(true, person, day, half, n)[0] > reckoned(false, person, day, half, n)[0];
    }

    int payer(int person, int day, int half, int n) {
        if (worth(person, day, half, n) == 0) {
            return -1;
        }
        return lookedAtBy(agreePays(person, day, half, n), person, day, half, n).fact;
    }

    int rate(int person, int day, int half, int n) {
        if (worth(person, day, half, n) == 0) {
            return -1;
        }
        return reckoned(agreePays(person, day, half, n), person, day, half, n)[1];
    }

    int counted(int person, int day, int half, int k, int n) {
        if (worth(person, day, half, n) == 0) {
            return -1;
        }
        int[] all = reckoned(agreePays(person, day, half, n), person, day, half, n);
        return in(k, 0, all.length - 3) ? all[2 + k] : -1;
    }

    int worth(int person, int day, int half, int n) {
        if (!isHalf(person, day, half, n)) {
            return 0;
        }
        return Math.max(reckoned(false, person, day, half, n)[0], reckoned(true, person, day, half, n)[0]);
    }

    // ---- weeks

    private boolean isWeek(int person, int week, int n) {
        return hasPerson(person) && in(week, 0, 19) && known(n);
    }

    int pay(int person, int week, int n) {
        if (!isWeek(person, week, n)) {
            return -1;
        }
        TreeMap<Integer, Long> sums = new TreeMap<>();
        for (int day = week * 7; day < week * 7 + 7; day++) {
            for (int half = 0; half < 48; half++) {
                int award = hasTask(person, day, half, n) ? bound(person, day, half, n) : -1;
                if (award >= 0) {
                    sums.merge(award, (long) worth(person, day, half, n), Long::sum);
                }
            }
        }
        long pay = 0;
        for (Map.Entry<Integer, Long> sum : sums.entrySet()) {
            Text text = facts.get(sum.getKey()).text;
            int firm = people.get(person)[0];
            int last = week * 7 + 6;
            long step = inForce(text, last, firm, n) ? asItIs(text, last, firm, n).round : 1;
            long down = sum.getValue() / (200 * step);
            long rest = sum.getValue() % (200 * step);
            pay += (2 * rest >= 200 * step ? down + 1 : down) * step;
        }
        return (int) pay;
    }

    int halves(int person, int week, int n, int what) {
        if (!isWeek(person, week, n) || !in(what, 0, 4)) {
            return -1;
        }
        int found = 0;
        for (int day = week * 7; day < week * 7 + 7; day++) {
            for (int half = 0; half < 48; half++) {
                if (did(person, day, half, n) == -2) {
                    found += what == 1 ? 1 : 0;
                }
                if (!hasTask(person, day, half, n) || what == 1) {
                    continue;
                }
                int bound = what == 0 ? 0 : bound(person, day, half, n);
                if (what == 0 || what == 2 && bound == -1 || what == 3 && bound == -2
                        || what == 4 && bound >= 0 && classed(person, day, half, n) == -1
                        && worth(person, day, half, n) == 0) {
                    found++;
                }
            }
        }
        return found;
    }

    int owed(int person, int week, int n) {
        if (!isWeek(person, week, n)) {
            return 0;
        }
        int owed = pay(person, week, n);
        for (int i = 0; i < n; i++) {
            Fact f = facts.get(i);
            if (f.kind == 9 && f.args[0] == person && f.args[1] == week) {
                owed -= f.args[2];
            }
        }
        return owed;
    }

    long shorted(int person, int a, int b, boolean setOff, int n) {
        if (!isWeek(person, a, n) || !isWeek(person, b, n) || b < a) {
            return -1;
        }
        long above = 0;
        long all = 0;
        for (int week = a; week <= b; week++) {
            int owed = owed(person, week, n);
            above += Math.max(owed, 0);
            all += owed;
        }
        return setOff ? Math.max(all, 0) : above;
    }

    long tried(int firm, int award, int name, int v, int a, int b, int n) {
        if (firm != -1 && !hasFirm(firm) || !known(n) || !isAward(award, n) || !in(name, 0, names.size() - 1)
                || !in(v, -9999, 9999) || !in(a, 0, 19) || !in(b, a, 19)) {
            return -1;
        }
        triedAward = award;
        triedName = names.get(name);
        triedMargin = v;
        long sum = 0;
        for (int person = 0; person < people.size(); person++) {
            for (int week = a; week <= b && (firm == -1 || people.get(person)[0] == firm); week++) {
                sum += pay(person, week, n);
            }
        }
        triedAward = -1;
        return sum;
    }

    int turned(int n, int m) {
        if (!known(n) || !known(m)) {
            return -1;
        }
        for (int person = 0; person < people.size(); person++) {
            for (int week = 0; week < 20; week++) {
                if (pay(person, week, n) != pay(person, week, m)) {
                    return 20 * person + week;
                }
            }
        }
        return -1;
    }

    // ---- partings

    boolean value(int task, int v) {
        if (!in(task, 0, 15) || !in(v, 0, 999)) {
            return false;
        }
        values[task] = v;
        return true;
    }

    boolean apart(int one, int other, boolean is) {
        if (!in(one, 0, 15) || !in(other, 0, 15) || one == other) {
            return false;
        }
        apart[one][other] = is;
        apart[other][one] = is;
        return true;
    }

    private List<Integer> members;
    private int[] best;
    private int[] bestValues;

    int parting(int set, int k, int d) {
        if (!in(set, 1, 65535) || Integer.bitCount(set) > 7 || !in(k, 1, 7) || !in(d, 0, 999)) {
            return -1;
        }
        members = new ArrayList<>();
        for (int task = 0; task < 16; task++) {
            if ((set >> task & 1) == 1) {
                members.add(task);
            }
        }
        best = null;
        tryParts(new int[members.size()], 0, 0, k, d);
        if (best == null) {
            return -2;
        }
        parted.clear();
        for (int i = 0; i < members.size(); i++) {
            parted.put(members.get(i), new int[] {best[2 + i], bestValues[best[2 + i]]});
        }
        return best[0];
    }

    /** Compares all partings as rows: changed TASKS, classes, then class numbers. */
    private void tryParts(int[] classes, int at, int used, int k, int d) {
        if (at < classes.length) {
            for (int c = 0; c <= used && c < k; c++) {
                classes[at] = c;
                tryParts(classes, at + 1, Math.max(used, c + 1), k, d);
            }
            return;
        }
        int changed = 0;
        int[] found = new int[used];
        for (int c = 0; c < used; c++) {
            int most = -1;
            int size = 0;
            for (int v = 0; v <= 9999; v++) {
                int alike = 0;
                boolean can = true;
                size = 0;
                for (int i = 0; i < classes.length; i++) {
                    if (classes[i] == c) {
                        int own = values[members.get(i)];
                        size++;
                        can &= Math.abs(own - v) <= d;
                        alike += own == v ? 1 : 0;
                    }
                }
                if (can && alike > most) {
                    most = alike;
                    found[c] = v;
                }
                if (v > 2000) {
                    break;
                }
            }
            for (int i = 0; i < classes.length; i++) {
                for (int j = 0; j < i; j++) {
                    if (classes[i] == c && classes[j] == c && apart[members.get(i)][members.get(j)]) {
                        return;
                    }
                }
            }
            if (most < 0) {
                return;
            }
            changed += size - most;
        }
        int[] row = new int[2 + classes.length];
        row[0] = changed;
        row[1] = used;
        System.arraycopy(classes, 0, row, 2, classes.length);
        if (best == null || java.util.Arrays.compare(row, best) < 0) {
            best = row;
            bestValues = found;
        }
    }

    int part(int task, int what) {
        return parted.containsKey(task) && in(what, 0, 1) ? parted.get(task)[what] : -1;
    }

    int count(int what) {
        int[] all = {towns, firms.size(), people.size(), facts.size(), texts(160).size(), names.size(), tape.length()};
        return in(what, 0, 6) ? all[what] : -1;
    }
}
