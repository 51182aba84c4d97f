import java.util.Arrays;

/** A registry of wages; what each public method promises stands in the document under its number. */
public final class WageCourt {
    public static final int NONE = -1;

    private static final int TOWNS = 5;
    private static final int FIRMS = 8;
    private static final int PEOPLE = 10;
    private static final int TRADES = 8;
    private static final int BITS = 255;
    private static final int YEARS = 40;
    private static final int DAYS = 140;
    private static final int WEEK = 7;
    private static final int WEEKS = 20;
    private static final int QUARTER = 35;
    private static final int QUARTERS = 4;
    private static final int HALVES = 48;
    private static final int TASKS = 16;
    private static final int BREAK = 16;
    private static final int GOODS = 4;
    private static final int WEIGHTS = 9;
    private static final int PENCE = 99;
    private static final int WETS = 9;
    private static final int FACTS = 160;
    private static final int TEXTS = 24;
    private static final int NAMES = 60;
    private static final int TAPE = 2000;
    private static final int FED = 20;
    private static final int TOKENS = 500;
    private static final int ITEMS = 30;
    private static final int BRACKETS = 6;
    private static final int CLASS_TASKS = 8;
    private static final int ITEM_BARS = 4;
    private static final int NAME_LETTERS = 8;
    private static final int INT_DIGITS = 4;
    private static final int TICKETS = 8;
    private static final int ROUNDS = 240;
    private static final int AMOUNT = 9999;
    private static final int PAYMENT_AMOUNT = 99999;
    private static final int LEAST_LOAD = -100;
    private static final int MOST_LOAD = 400;
    private static final int MOST_LOADS = 1000;
    private static final int MOST_EXTRA = 999;
    private static final int MOST_EXTRAS = 9999;
    private static final int PENNY = 200;
    private static final int VALUES = 999;
    private static final int PARTED = 7;
    /** Seven TASKS can be parted in so many ways. */
    private static final int WAYS = 877;
    /** No tie is longer: it would come by a class again. */
    private static final int TIES = TEXTS * NAMES + 1;
    /** Brackets, signs and comparisons leave far fewer numbers open at once. */
    private static final int OPEN_NUMBERS = 64;

    private static final int UNKNOWN = -2;
    private static final int QUARREL = -2;
    private static final int NO_ROOM = -2;
    private static final int NO_PARTING = -2;
    private static final int NO_HALF = -3;
    private static final int NO_MARGIN = -1000000;

    private static final int AN_AWARD = 0;
    private static final int AN_ORDER = 2;
    private static final int AN_AGREE = 3;
    private static final int A_PRICE = 4;
    private static final int A_WET = 5;
    private static final int A_ROW = 6;
    private static final int A_LOG = 7;
    private static final int AN_ANSWER = 8;
    private static final int A_PAYMENT = 9;
    private static final int A_STAY = 10;

    private static final int SYNTAX = 1;
    private static final int ROOM = 2;
    private static final int TWICE = 3;
    private static final int UNHEARD = 4;
    private static final int WRONG = 5;
    private static final int FULL = 6;

    private static final int DID = 0;
    private static final int NOT_IN_FORCE = 1;
    private static final int GONE = 2;
    private static final int FALLS = 3;

    private static final int END = 0;
    private static final int NO_TOKEN = 1;
    private static final int NAME = 2;
    private static final int INT = 3;
    private static final int SEMICOLON = 4;
    private static final int COMMA = 5;
    private static final int ADD = 6;
    private static final int SUBTRACT = 7;
    private static final int TIMES = 8;
    private static final int DIVIDE = 9;
    private static final int EQUAL = 10;
    private static final int UNLIKE = 11;
    private static final int BELOW = 12;
    private static final int AT_MOST = 13;
    private static final int OPEN = 14;
    private static final int CLOSE = 15;

    private static final String VAR_WORDS = "least years trade town who task weekday half worked week wet rate";
    private static final String ITEM_WORDS = "binds over class choose load extra round strike margin";
    private static final String HEAD_WORDS = "award vary order agree firm from";
    private static final String OTHER_WORDS = "if tasks follows plus each most highest bars is or and not ticket";
    private static final int VARS = 12;
    private static final int ALL_WORDS = 40;

    // A word's kind is FIRST_WORD and its place in the four lists above.
    private static final int FIRST_WORD = 20;
    private static final int LEAST = 20;
    private static final int RATE = 31;
    private static final int BINDS = 32;
    private static final int OVER = 33;
    private static final int CLASS = 34;
    private static final int CHOOSE = 35;
    private static final int LOAD = 36;
    private static final int EXTRA = 37;
    private static final int ROUND = 38;
    private static final int STRIKE = 39;
    private static final int MARGIN = 40;
    private static final int AWARD = 41;
    private static final int FIRM = 45;
    private static final int FROM = 46;
    private static final int IF = 47;
    private static final int TASKS_WORD = 48;
    private static final int FOLLOWS = 49;
    private static final int PLUS = 50;
    private static final int EACH = 51;
    private static final int MOST = 52;
    private static final int HIGHEST = 53;
    private static final int BARS = 54;
    private static final int IS = 55;
    private static final int OR = 56;
    private static final int AND = 57;
    private static final int NOT = 58;
    private static final int TICKET = 59;

    // Where the VARS stand in a row of their values.
    private static final int VAR_LEAST = 0;
    private static final int VAR_YEARS = 1;
    private static final int VAR_TRADE = 2;
    private static final int VAR_TOWN = 3;
    private static final int VAR_WHO = 4;
    private static final int VAR_TASK = 5;
    private static final int VAR_WEEKDAY = 6;
    private static final int VAR_HALF = 7;
    private static final int VAR_WORKED = 8;
    private static final int VAR_WEEK = 9;
    private static final int VAR_WET = 10;
    private static final int VAR_RATE = 11;

    /** A step of a formula is its token's kind times this, and its number. */
    private static final int STEP = 10000;
    private static final int RANK = 100;
    private static final int RANK_OPEN = 0;
    private static final int RANK_NOT = 3;

    // What a formula that is being made goes on with.
    private static final int AT_LIT = 0;
    private static final int AT_UNIT = 1;
    private static final int AT_TICKET = 2;
    private static final int BEHIND_UNIT = 3;
    private static final int BEHIND_TICKET = 4;

    private final Land land;
    private final Ledger ledger;
    private final Lexer lexer;
    private final Parser parser;
    private final Scene scene;
    private final Reckoning reckoning;
    private final Parting tasks;
    private int faultPlace = NONE;

    public WageCourt() {
        Formula formula = new Formula();
        land = new Land();
        ledger = new Ledger();
        lexer = new Lexer();
        parser = new Parser(lexer, ledger, formula);
        scene = new Scene(land, ledger, formula);
        reckoning = new Reckoning(ledger, scene);
        tasks = new Parting();
    }

    public int feed(int a, int b, int c, int d, int e) {
        if (lexer.length + FED > TAPE) {
            return NONE;
        }
        lexer.write(a);
        lexer.write(b);
        lexer.write(c);
        lexer.write(d);
        lexer.write(e);
        return lexer.length;
    }

    public int back(int n) {
        if (n < 0 || n > lexer.length) {
            return NONE;
        }
        lexer.length -= n;
        return lexer.length;
    }

    public int read() {
        if (ledger.factCount >= FACTS || ledger.textCount >= TEXTS) {
            return NO_ROOM;
        }
        parser.begin();
        boolean whole = parser.takeHead() && parser.takeItems();
        Text text = parser.finish(whole);
        lexer.length = 0;
        faultPlace = parser.faultPlace;
        if (text != null) {
            ledger.enter(text);
        }
        return parser.fault;
    }

    public int place() {
        return faultPlace;
    }

    public int named() {
        int number = parser.numberOfOnly();
        lexer.length = 0;
        return number;
    }

    public int town() {
        if (land.towns >= TOWNS) {
            return NONE;
        }
        land.towns++;
        return land.towns - 1;
    }

    public int firm(int town, int trade) {
        if (!land.hasTown(town) || !within(trade, 0, TRADES - 1)) {
            return NONE;
        }
        return land.addFirm(town, trade);
    }

    public int person(int firm, int tickets, int years) {
        if (!land.hasFirm(firm) || !within(tickets, 0, BITS) || !within(years, 0, YEARS)) {
            return NONE;
        }
        return land.addPerson(firm, tickets, years);
    }

    public boolean marks(int task, int bits) {
        if (!isTask(task) || !within(bits, 0, BITS)) {
            return false;
        }
        land.marks[task] = bits;
        return true;
    }

    public boolean weight(int good, int v) {
        if (!within(good, 0, GOODS - 1) || !within(v, 0, WEIGHTS)) {
            return false;
        }
        land.weights[good] = v;
        return true;
    }

    public int price(int town, int quarter, int good, int v) {
        if (!land.hasTown(town) || !isQuarter(quarter) || !within(good, 0, GOODS - 1) || !within(v, 0, PENCE)) {
            return NONE;
        }
        return ledger.tell(A_PRICE, town, quarter, good, v);
    }

    public int wet(int firm, int day, int v) {
        if (!land.hasFirm(firm) || !isDay(day) || !within(v, 0, WETS)) {
            return NONE;
        }
        return ledger.tell(A_WET, firm, day, 0, v);
    }

    public int row(int person, int day, int n) {
        if (!land.hasPerson(person) || !isDay(day) || n != NONE && !within(n, 1, HALVES)) {
            return NONE;
        }
        return ledger.tellRow(person, day, n == NONE ? 0 : n);
    }

    public boolean cell(int i, int v) {
        Fact last = ledger.factAt(ledger.factCount - 1);
        if (last == null || last.kind != A_ROW || !within(i, 0, last.cells.length - 1)) {
            return false;
        }
        if (v != NONE && v != BREAK && !isTask(v)) {
            return false;
        }
        last.cells[i] = v;
        return true;
    }

    public int log(int award, int name, int v) {
        return tellClaim(A_LOG, award, name, v);
    }

    public int answer(int award, int name, int v) {
        return tellClaim(AN_ANSWER, award, name, v);
    }

    private int tellClaim(int kind, int award, int name, int v) {
        Text text = ledger.textAt(award, ledger.factCount);
        if (text == null || text.kind != AN_AWARD || !isName(name) || !within(v, 0, AMOUNT)) {
            return NONE;
        }
        return ledger.tell(kind, award, 0, name, v);
    }

    public int paid(int person, int week, int v) {
        if (!land.hasPerson(person) || !isWeek(week) || !within(v, -PAYMENT_AMOUNT, PAYMENT_AMOUNT)) {
            return NONE;
        }
        return ledger.tell(A_PAYMENT, person, week, 0, v);
    }

    public int stay(int text, int a, int b) {
        if (ledger.textAt(text, ledger.factCount) == null || a < 0 || a >= b || b > DAYS) {
            return NONE;
        }
        return ledger.tell(A_STAY, text, a, 0, b);
    }

    public int priced(int town, int quarter, int good, int n) {
        if (!land.hasTown(town) || !isQuarter(quarter) || !within(good, 0, GOODS - 1) || !ledger.canKnow(n)) {
            return NONE;
        }
        return ledger.lastPrice(town, quarter, good, n);
    }

    public int least(int town, int quarter, int n) {
        if (!land.hasTown(town) || !isQuarter(quarter) || !ledger.canKnow(n)) {
            return NONE;
        }
        return ledger.basket(town, quarter, n, land.weights);
    }

    public int kind(int fact) {
        Fact one = ledger.factAt(fact);
        return one == null ? NONE : one.kind;
    }

    public int award(int text) {
        Text one = ledger.textAt(text, ledger.factCount);
        return one == null ? NONE : one.awardFact();
    }

    public int force(int text, int day, int firm, int n) {
        Text one = opened(text, day, firm, n);
        if (one == null) {
            return NONE;
        }
        return one.inForce ? 1 : 0;
    }

    public int fate(int text, int k, int day, int firm, int n) {
        Text one = opened(text, day, firm, n);
        if (one == null || !within(k, 0, one.items.length - 1)) {
            return NONE;
        }
        if (!one.inForce || one.changesAward() && !one.parent.inForce) {
            return NOT_IN_FORCE;
        }
        return one.items[k].fate;
    }

    public int item(int text, int day, int firm, int k, int n, int what) {
        Text one = opened(text, day, firm, n);
        if (one == null || !one.inForce || !within(k, 0, one.standing - 1)) {
            return NONE;
        }
        Item stands = one.stands[k];
        switch (what) {
            case 0:
                return stands.kind == CLASS ? 0 : stands.kind == LOAD ? 1 : 2;
            case 1:
                return stands.name;
            case 2:
                return stands.teller;
            default:
                return NONE;
        }
    }

    public int margin(int text, int name, int day, int firm, int n) {
        Text one = opened(text, day, firm, n);
        if (one == null || !one.inForce) {
            return NO_MARGIN;
        }
        int entry = one.classEntry(name);
        return entry == NONE ? NO_MARGIN : scene.marginOf(one, entry);
    }

    /** The TEXT among the first n, with all TEXTS as they are on the DAY at the FIRM; null for no such ones. */
    private Text opened(int text, int day, int firm, int n) {
        if (!isDay(day) || !land.hasFirm(firm) || !ledger.canKnow(n)) {
            return null;
        }
        Text one = ledger.textAt(text, n);
        if (one != null) {
            scene.open(firm, day, n, 0);
        }
        return one;
    }

    public int did(int person, int day, int half, int n) {
        if (!isHalfOf(person, day, half, n)) {
            return NO_HALF;
        }
        reckoning.load(person, day / WEEK, n);
        return reckoning.doneIn(day % WEEK, half);
    }

    public int bound(int person, int day, int half, int n) {
        return reckoned(person, day, half, n) ? reckoning.bound[half] : NONE;
    }

    public int classed(int person, int day, int half, int n) {
        if (!reckoned(person, day, half, n)) {
            return NONE;
        }
        Text award = reckoning.award[half];
        int entry = reckoning.awardClass[half];
        return award == null || entry == NONE ? NONE : award.stands[entry].name;
    }

    public int nearest(int person, int day, int half, int n) {
        if (!reckoned(person, day, half, n)) {
            return NONE;
        }
        Text award = reckoning.award[half];
        if (award == null || reckoning.awardClass[half] != NONE) {
            return NONE;
        }
        return award.nearestClass(reckoning.tasks[half], land.marks);
    }

    public int payer(int person, int day, int half, int n) {
        if (!reckoned(person, day, half, n)) {
            return NONE;
        }
        Text text = reckoning.payer[half];
        return text == null ? NONE : text.fact;
    }

    public int rate(int person, int day, int half, int n) {
        if (!reckoned(person, day, half, n) || reckoning.payer[half] == null) {
            return NONE;
        }
        reckoning.repeat(half);
        return reckoning.rate;
    }

    public int counted(int person, int day, int half, int k, int n) {
        if (!reckoned(person, day, half, n) || reckoning.payer[half] == null) {
            return NONE;
        }
        reckoning.repeat(half);
        return within(k, 0, reckoning.countedItems - 1) ? reckoning.counted[k] : NONE;
    }

    public int worth(int person, int day, int half, int n) {
        return reckoned(person, day, half, n) ? reckoning.worth[half] : 0;
    }

    /** Whether there is such a HALF; its DAY is reckoned then. */
    private boolean reckoned(int person, int day, int half, int n) {
        if (!isHalfOf(person, day, half, n)) {
            return false;
        }
        reckoning.load(person, day / WEEK, n);
        reckoning.reckon(day % WEEK);
        return true;
    }

    private boolean isHalfOf(int person, int day, int half, int n) {
        return land.hasPerson(person) && isDay(day) && within(half, 0, HALVES - 1) && ledger.canKnow(n);
    }

    public int pay(int person, int week, int n) {
        return isWeekOf(person, week, n) ? reckoning.weekPay(person, week, n) : NONE;
    }

    public int halves(int person, int week, int n, int what) {
        if (!isWeekOf(person, week, n) || !within(what, 0, 4)) {
            return NONE;
        }
        reckoning.load(person, week, n);
        int found = 0;
        for (int weekday = 0; weekday < WEEK; weekday++) {
            reckoning.reckon(weekday);
            for (int half = 0; half < HALVES; half++) {
                if (reckoning.isSuch(half, what)) {
                    found++;
                }
            }
        }
        return found;
    }

    public int owed(int person, int week, int n) {
        if (!isWeekOf(person, week, n)) {
            return 0;
        }
        return reckoning.weekPay(person, week, n) - ledger.payments(person, week, n);
    }

    public long shorted(int person, int a, int b, boolean setOff, int n) {
        if (!isWeekOf(person, a, n) || !isWeek(b) || b < a) {
            return NONE;
        }
        long sum = 0;
        for (int week = a; week <= b; week++) {
            int owes = reckoning.weekPay(person, week, n) - ledger.payments(person, week, n);
            sum += setOff ? owes : Math.max(0, owes);
        }
        return Math.max(0L, sum);
    }

    private boolean isWeekOf(int person, int week, int n) {
        return land.hasPerson(person) && isWeek(week) && ledger.canKnow(n);
    }

    public long tried(int firm, int award, int name, int v, int a, int b, int n) {
        if (firm != NONE && !land.hasFirm(firm) || !ledger.canKnow(n)) {
            return NONE;
        }
        Text text = ledger.textAt(award, n);
        if (text == null || text.kind != AN_AWARD || !isName(name) || !within(v, -AMOUNT, AMOUNT)) {
            return NONE;
        }
        if (!isWeek(a) || !isWeek(b) || b < a) {
            return NONE;
        }
        scene.suppose(text, name, v);
        long sum = 0;
        for (int person = 0; person < land.people; person++) {
            if (firm == NONE || land.personFirm[person] == firm) {
                for (int week = a; week <= b; week++) {
                    sum += reckoning.weekPay(person, week, n);
                }
            }
        }
        scene.suppose(null, NONE, 0);
        return sum;
    }

    public boolean value(int task, int v) {
        if (!isTask(task) || !within(v, 0, VALUES)) {
            return false;
        }
        tasks.values[task] = v;
        return true;
    }

    public boolean apart(int one, int other, boolean is) {
        if (!isTask(one) || !isTask(other) || one == other) {
            return false;
        }
        tasks.setApart(one, other, is);
        tasks.setApart(other, one, is);
        return true;
    }

    public int parting(int set, int k, int d) {
        if (!within(set, 1, (1 << TASKS) - 1) || Integer.bitCount(set) > PARTED) {
            return NONE;
        }
        if (!within(k, 1, PARTED) || !within(d, 0, VALUES)) {
            return NONE;
        }
        return tasks.divide(set, k, d);
    }

    public int part(int task, int what) {
        if (!isTask(task) || tasks.classOf[task] == NONE) {
            return NONE;
        }
        return what == 0 ? tasks.classOf[task] : what == 1 ? tasks.valueOf[task] : NONE;
    }

    public int turned(int n, int m) {
        if (!ledger.canKnow(n) || !ledger.canKnow(m)) {
            return NONE;
        }
        for (int person = 0; person < land.people; person++) {
            for (int week = 0; week < WEEKS; week++) {
                if (reckoning.weekPay(person, week, n) != reckoning.weekPay(person, week, m)) {
                    return person * WEEKS + week;
                }
            }
        }
        return NONE;
    }

    public int count(int what) {
        switch (what) {
            case 0:
                return land.towns;
            case 1:
                return land.firms;
            case 2:
                return land.people;
            case 3:
                return ledger.factCount;
            case 4:
                return ledger.textCount;
            case 5:
                return parser.nameCount;
            case 6:
                return lexer.length;
            default:
                return NONE;
        }
    }

    private boolean isName(int name) {
        return within(name, 0, parser.nameCount - 1);
    }

    private static boolean isTask(int v) {
        return within(v, 0, TASKS - 1);
    }

    private static boolean isDay(int v) {
        return within(v, 0, DAYS - 1);
    }

    private static boolean isWeek(int v) {
        return within(v, 0, WEEKS - 1);
    }

    private static boolean isQuarter(int v) {
        return within(v, 0, QUARTERS - 1);
    }

    private static boolean within(int v, int low, int high) {
        return v >= low && v <= high;
    }

    private static int held(int v, int low, int high) {
        return Math.max(low, Math.min(high, v));
    }

    /** THE LAND, and what is told of TASKS and GOODS at large. */
    private static final class Land {
        int towns;
        int firms;
        int people;
        final int[] firmTown = new int[FIRMS];
        final int[] firmTrade = new int[FIRMS];
        final int[] personFirm = new int[PEOPLE];
        final int[] personTickets = new int[PEOPLE];
        final int[] personYears = new int[PEOPLE];
        final int[] marks = new int[TASKS];
        final int[] weights = new int[GOODS];

        Land() {
            Arrays.fill(weights, 1);
        }

        boolean hasTown(int v) {
            return within(v, 0, towns - 1);
        }

        boolean hasFirm(int v) {
            return within(v, 0, firms - 1);
        }

        boolean hasPerson(int v) {
            return within(v, 0, people - 1);
        }

        int addFirm(int town, int trade) {
            if (firms >= FIRMS) {
                return NONE;
            }
            firmTown[firms] = town;
            firmTrade[firms] = trade;
            firms++;
            return firms - 1;
        }

        int addPerson(int firm, int tickets, int years) {
            if (people >= PEOPLE) {
                return NONE;
            }
            personFirm[people] = firm;
            personTickets[people] = tickets;
            personYears[people] = years;
            people++;
            return people - 1;
        }
    }

    /** One FACT: of what (subject), when (time: for a STAY its first DAY), which GOOD or NAME (thing), how much. */
    private static final class Fact {
        final int kind;
        final int subject;
        final int time;
        final int thing;
        final int amount;
        /** A ROW's cells, none for a MISSING one. */
        final int[] cells;
        /** null for all but TEXTS. */
        final Text text;

        Fact(int kind, int subject, int time, int thing, int amount, int cellCount, Text text) {
            this.kind = kind;
            this.subject = subject;
            this.time = time;
            this.thing = thing;
            this.amount = amount;
            this.text = text;
            cells = new int[Math.max(0, cellCount)];
            Arrays.fill(cells, NONE);
        }
    }

    /** An ITEM of a TEXT; its kind is that of its first word. */
    private static final class Item {
        final int kind;
        /** The FACT of its TEXT. */
        final int teller;
        int name = NONE;
        /** TASKS of a class, as bits. */
        int tasks;
        int tieAward = NONE;
        int tieClass = NONE;
        int[] sum;
        /** No steps: no COND. */
        int[] cond;
        /** NAMES that it bars, as bits. */
        long bars;
        /** round's pence, or the word behind choose. */
        int number;
        /** What LOG and ANSWER leave room for; low above high where one is missing. */
        int low = 1;
        int high = 0;
        int fate;

        Item(int kind, int teller) {
            this.kind = kind;
            this.teller = teller;
            sum = new int[0];
            cond = new int[0];
        }
    }

    /** A TEXT; and, of an award or agree, what it is in the Scene that was opened last. */
    private static final class Text {
        final int kind;
        final int fact;
        final int name;
        final int firm;
        final int from;
        /** The award of a vary, order, agree; null for an award. */
        final Text parent;
        final Item[] items;

        boolean inForce;
        /** Its classes, loads and extras; each NAME stands at most once. */
        final Item[] stands;
        /** Which ITEM tells the margin of the class that stands there. */
        final Item[] tellsMargin;
        /** The walk along ties that came by last. */
        final int[] walked;
        /** How many HALVES have the class that stands there. */
        final int[] tally;
        int standing;
        int choose = EACH;
        int round = 1;
        /** Whether some binds COND holds for the HALF that is looked at. */
        boolean binds;
        long total;

        Text(int kind, int fact, int name, int firm, int from, Text parent, Item[] items) {
            this.kind = kind;
            this.fact = fact;
            this.name = name;
            this.firm = firm;
            this.from = from;
            this.parent = parent;
            this.items = items;
            int room = kind == AN_AWARD || kind == AN_AGREE ? NAMES : 0;
            stands = new Item[room];
            tellsMargin = new Item[room];
            walked = new int[room];
            tally = new int[room];
        }

        boolean changesAward() {
            return parent != null && kind != AN_AGREE;
        }

        int awardFact() {
            return parent == null ? fact : parent.fact;
        }

        void clear() {
            standing = 0;
            choose = EACH;
            round = 1;
        }

        int entryOf(int wanted) {
            for (int i = 0; i < standing; i++) {
                if (stands[i].name == wanted) {
                    return i;
                }
            }
            return NONE;
        }

        int classEntry(int wanted) {
            int entry = entryOf(wanted);
            return entry != NONE && stands[entry].kind == CLASS ? entry : NONE;
        }

        void put(Item one) {
            int entry = entryOf(one.name);
            if (entry == NONE && standing < stands.length) {
                entry = standing;
                standing++;
            }
            if (entry != NONE) {
                stands[entry] = one;
                tellsMargin[entry] = one;
            }
        }

        boolean drop(int gone) {
            int entry = entryOf(gone);
            if (entry == NONE) {
                return false;
            }
            standing--;
            for (int i = entry; i < standing; i++) {
                stands[i] = stands[i + 1];
                tellsMargin[i] = tellsMargin[i + 1];
            }
            return true;
        }

        int firstClass(int task) {
            for (int i = 0; i < standing; i++) {
                if (stands[i].kind == CLASS && (stands[i].tasks >> task & 1) == 1) {
                    return i;
                }
            }
            return NONE;
        }

        int nearestClass(int task, int[] marks) {
            int found = NONE;
            int most = 0;
            for (int i = 0; i < standing; i++) {
                for (int other = 0; other < marks.length; other++) {
                    boolean has = stands[i].kind == CLASS && (stands[i].tasks >> other & 1) == 1;
                    int common = has && isTask(task) ? Integer.bitCount(marks[task] & marks[other]) : 0;
                    if (common > most) {
                        most = common;
                        found = stands[i].name;
                    }
                }
            }
            return found;
        }

        boolean isOver(int other) {
            for (int i = 0; i < items.length; i++) {
                if (items[i].kind == OVER && items[i].name == other) {
                    return true;
                }
            }
            return false;
        }
    }

    /** All FACTS, and the TEXTS among them by their 'from' DAYS, then by FACTS. */
    private static final class Ledger {
        final Fact[] facts = new Fact[FACTS];
        final Text[] texts = new Text[TEXTS];
        int factCount;
        int textCount;

        boolean canKnow(int n) {
            return within(n, 0, factCount);
        }

        Fact factAt(int i) {
            return within(i, 0, factCount - 1) ? facts[i] : null;
        }

        /** The TEXT that is the FACT i, among the first n; null if there is none. */
        Text textAt(int i, int n) {
            Fact fact = i < n ? factAt(i) : null;
            return fact == null ? null : fact.text;
        }

        Text awardNamed(int name) {
            for (int i = 0; i < textCount; i++) {
                if (texts[i].kind == AN_AWARD && texts[i].name == name) {
                    return texts[i];
                }
            }
            return null;
        }

        int tell(int kind, int subject, int time, int thing, int amount) {
            return add(new Fact(kind, subject, time, thing, amount, 0, null));
        }

        int tellRow(int person, int day, int cells) {
            return add(new Fact(A_ROW, person, day, 0, 0, cells, null));
        }

        void enter(Text text) {
            if (textCount >= TEXTS || factCount >= FACTS) {
                return;
            }
            add(new Fact(text.kind, 0, text.from, text.name, 0, 0, text));
            int at = textCount;
            while (at > 0 && texts[at - 1].from > text.from) {
                texts[at] = texts[at - 1];
                at--;
            }
            texts[at] = text;
            textCount++;
        }

        private int add(Fact fact) {
            if (factCount >= FACTS) {
                return NONE;
            }
            facts[factCount] = fact;
            factCount++;
            return factCount - 1;
        }

        int lastPrice(int town, int quarter, int good, int n) {
            int latest = 0;
            int found = 0;
            for (int i = 0; i < n; i++) {
                Fact fact = facts[i];
                if (fact.kind == A_PRICE && fact.subject == town && fact.thing == good
                        && within(fact.time, latest, quarter)) {
                    latest = fact.time;
                    found = fact.amount;
                }
            }
            return found;
        }

        int basket(int town, int quarter, int n, int[] weights) {
            int sum = 0;
            for (int good = 0; good < weights.length; good++) {
                sum += weights[good] * lastPrice(town, quarter, good, n);
            }
            return sum;
        }

        int lastWet(int firm, int day, int n) {
            int found = 0;
            for (int i = 0; i < n; i++) {
                if (facts[i].kind == A_WET && facts[i].subject == firm && facts[i].time == day) {
                    found = facts[i].amount;
                }
            }
            return found;
        }

        /** The last LOG or ANSWER for an award and a NAME; NONE without. */
        int lastClaim(int kind, int award, int name) {
            int found = NONE;
            for (int i = 0; i < factCount; i++) {
                if (facts[i].kind == kind && facts[i].subject == award && facts[i].thing == name) {
                    found = facts[i].amount;
                }
            }
            return found;
        }

        int payments(int person, int week, int n) {
            int sum = 0;
            for (int i = 0; i < n; i++) {
                if (facts[i].kind == A_PAYMENT && facts[i].subject == person && facts[i].time == week) {
                    sum += facts[i].amount;
                }
            }
            return sum;
        }

        void setInForce(int firm, int day, int n) {
            for (int i = 0; i < textCount; i++) {
                Text text = texts[i];
                text.inForce = text.fact < n && text.from <= day && (text.firm == NONE || text.firm == firm);
            }
            for (int i = 0; i < n; i++) {
                if (facts[i].kind == A_STAY && within(day, facts[i].time, facts[i].amount - 1)) {
                    Text stayed = textAt(facts[i].subject, n);
                    if (stayed != null) {
                        stayed.inForce = false;
                    }
                }
            }
        }
    }

    /** The tape, and the TOKENS that are on it. */
    private static final class Lexer {
        final int[] tape = new int[TAPE];
        int length;
        /** One more than a text may have, so that the one too many can be told. */
        final int[] kinds = new int[TOKENS + 1];
        final int[] places = new int[TOKENS + 1];
        /** An INT's number, a NAME's letters. */
        final long[] says = new long[TOKENS + 1];
        private final long[] words = new long[ALL_WORDS];
        private int next;

        Lexer() {
            int learnt = learn(VAR_WORDS, 0);
            learnt = learn(ITEM_WORDS, learnt);
            learnt = learn(HEAD_WORDS, learnt);
            learn(OTHER_WORDS, learnt);
        }

        private int learn(String list, int first) {
            int at = first;
            for (int i = 0; i < list.length() && at < words.length; i++) {
                if (list.charAt(i) == ' ') {
                    at++;
                } else {
                    words[at] = withLetter(words[at], list.charAt(i));
                }
            }
            return at + 1;
        }

        /** Differs for any two texts of up to twelve letters; longer ones are no NAMES. */
        private static long withLetter(long some, int letter) {
            return some * 32 + (letter - 'a' + 1);
        }

        void write(int four) {
            for (int shift = 24; shift >= 0 && length < TAPE; shift -= 8) {
                tape[length] = four >> shift & 255;
                length++;
            }
        }

        /** Up to the END, what is no TOKEN, or the TOKEN that is one too many. */
        void scan() {
            next = 0;
            boolean more = true;
            for (int i = 0; i <= TOKENS && more; i++) {
                while (next < length && isBlank(tape[next])) {
                    next++;
                }
                places[i] = next;
                kinds[i] = next < length ? takeToken(i, tape[next]) : END;
                more = kinds[i] != END && kinds[i] != NO_TOKEN;
            }
        }

        private int takeToken(int i, int sign) {
            if (isLetter(sign)) {
                return takeLetters(i);
            }
            if (isDigit(sign)) {
                return takeDigits(i);
            }
            boolean beforeEqual = next + 1 < length && tape[next + 1] == '=';
            int kind = signKind(sign, beforeEqual);
            next += kind == EQUAL || kind == UNLIKE || kind == AT_MOST ? 2 : 1;
            return kind;
        }

        private int takeLetters(int i) {
            int first = next;
            long letters = 0;
            while (next < length && isLetter(tape[next])) {
                letters = withLetter(letters, tape[next]);
                next++;
            }
            says[i] = letters;
            return next - first > NAME_LETTERS ? NO_TOKEN : wordKind(letters);
        }

        private int wordKind(long letters) {
            for (int i = 0; i < words.length; i++) {
                if (words[i] == letters) {
                    return FIRST_WORD + i;
                }
            }
            return NAME;
        }

        private int takeDigits(int i) {
            int first = next;
            int number = 0;
            while (next < length && isDigit(tape[next])) {
                number = number * 10 + (tape[next] - '0');
                next++;
            }
            says[i] = number;
            return next - first > INT_DIGITS ? NO_TOKEN : INT;
        }

        private static int signKind(int sign, boolean beforeEqual) {
            switch (sign) {
                case ';':
                    return SEMICOLON;
                case ',':
                    return COMMA;
                case '+':
                    return ADD;
                case '-':
                    return SUBTRACT;
                case '*':
                    return TIMES;
                case '/':
                    return DIVIDE;
                case '(':
                    return OPEN;
                case ')':
                    return CLOSE;
                case '<':
                    return beforeEqual ? AT_MOST : BELOW;
                case '=':
                    return beforeEqual ? EQUAL : NO_TOKEN;
                case '!':
                    return beforeEqual ? UNLIKE : NO_TOKEN;
                default:
                    return NO_TOKEN;
            }
        }

        private static boolean isBlank(int sign) {
            return sign == ' ' || sign == 9 || sign == 10 || sign == 13;
        }

        private static boolean isLetter(int sign) {
            return sign >= 'a' && sign <= 'z';
        }

        private static boolean isDigit(int sign) {
            return sign >= '0' && sign <= '9';
        }
    }

    /**
     * Makes a TEXT of the tape. The methods that take something answer false as soon as there is a SYNTAX
     * or ROOM fault; the faults behind these are noted as they are met, and the first of them counts once
     * the whole text has been gone through.
     */
    private static final class Parser {
        final Lexer lexer;
        final Ledger ledger;
        final long[] names = new long[NAMES];
        int nameCount;
        private int namesBefore;
        int fault;
        int faultPlace = NONE;

        private final Formula formula;
        private int lateFault;
        private int latePlace;
        private int fullPlace;
        /** The TOKEN that is looked at. */
        private int at;
        /** What the INT or NAME that was taken last says. */
        private int got;
        private final Item[] items = new Item[ITEMS];
        private int itemCount;
        private int textKind;
        private int title;
        private int firm;
        private int from;

        Parser(Lexer lexer, Ledger ledger, Formula formula) {
            this.lexer = lexer;
            this.ledger = ledger;
            this.formula = formula;
        }

        /** The number of the NAME that the tape is; NONE: it is no such one. */
        int numberOfOnly() {
            lexer.scan();
            if (lexer.kinds[0] != NAME || lexer.kinds[1] != END) {
                return NONE;
            }
            return numberOf(lexer.says[0]);
        }

        void begin() {
            fault = 0;
            faultPlace = NONE;
            lateFault = 0;
            latePlace = NONE;
            fullPlace = NONE;
            namesBefore = nameCount;
            at = 0;
            itemCount = 0;
            firm = NONE;
            lexer.scan();
        }

        /** The TEXT that was taken, whole or not; null with a FAULT. */
        Text finish(boolean whole) {
            if (whole && lateFault != 0) {
                fault = lateFault;
                faultPlace = latePlace;
            } else if (whole && fullPlace != NONE) {
                fault = FULL;
                faultPlace = fullPlace;
            }
            if (!whole || fault != 0) {
                nameCount = namesBefore;
                return null;
            }
            return made();
        }

        private Text made() {
            Text parent = textKind == AN_AWARD ? null : ledger.awardNamed(title);
            Item[] own = new Item[itemCount];
            for (int i = 0; i < itemCount; i++) {
                own[i] = items[i];
                if (parent != null && own[i].kind == MARGIN) {
                    setAmbit(own[i], parent.fact);
                }
            }
            return new Text(textKind, ledger.factCount, title, firm, from, parent, own);
        }

        /** Only what is told ahead of a TEXT counts for it, so this never changes. */
        private void setAmbit(Item item, int award) {
            int log = ledger.lastClaim(A_LOG, award, item.name);
            int answer = ledger.lastClaim(AN_ANSWER, award, item.name);
            if (log != NONE && answer != NONE) {
                item.low = Math.min(log, answer);
                item.high = Math.max(log, answer);
            }
        }

        boolean takeHead() {
            textKind = lexer.kinds[at] - AWARD;
            if (!within(textKind, AN_AWARD, AN_AGREE)) {
                return fail(SYNTAX);
            }
            if (!take() || !takeTitle()) {
                return false;
            }
            if (textKind >= AN_ORDER) {
                if (!takeKind(FIRM) || !takeInt(0, FIRMS - 1)) {
                    return false;
                }
                firm = got;
            }
            if (!takeKind(FROM) || !takeInt(0, DAYS - 1)) {
                return false;
            }
            from = got;
            return takeKind(SEMICOLON);
        }

        private boolean takeTitle() {
            if (lexer.kinds[at] != NAME) {
                return fail(SYNTAX);
            }
            boolean told = ledger.awardNamed(numberOf(lexer.says[at])) != null;
            if (textKind == AN_AWARD && told) {
                noteLate(TWICE);
            } else if (textKind != AN_AWARD && !told) {
                noteLate(UNHEARD);
            }
            boolean well = takeName();
            title = got;
            return well;
        }

        boolean takeItems() {
            for (int i = 0; i <= ITEMS; i++) {
                if (lexer.kinds[at] == END) {
                    return true;
                }
                if (!within(lexer.kinds[at], BINDS, MARGIN)) {
                    return fail(SYNTAX);
                }
                if (i == ITEMS) {
                    return fail(ROOM);
                }
                items[i] = new Item(lexer.kinds[at], ledger.factCount);
                itemCount = i + 1;
                if (isMisplaced(items[i].kind)) {
                    noteLate(WRONG);
                }
                if (!take() || !takeBody(items[i]) || !takeKind(SEMICOLON)) {
                    return false;
                }
            }
            return false;
        }

        private boolean isMisplaced(int itemKind) {
            boolean stands = textKind == AN_AWARD || textKind == AN_AGREE;
            return stands ? itemKind == STRIKE || itemKind == MARGIN : itemKind == BINDS || itemKind == OVER;
        }

        private boolean takeBody(Item item) {
            switch (item.kind) {
                case BINDS:
                    return takeKind(IF) && takeFormula(item, true);
                case CHOOSE:
                    item.number = lexer.kinds[at];
                    return within(item.number, EACH, HIGHEST) ? take() : fail(SYNTAX);
                case ROUND:
                    boolean well = takeInt(1, ROUNDS);
                    item.number = got;
                    return well;
                case CLASS:
                    return takeItemName(item) && takeTasks(item) && takeMargin(item);
                case LOAD:
                case EXTRA:
                    return takeItemName(item) && takeFormula(item, false)
                            && (lexer.kinds[at] != IF || take() && takeFormula(item, true)) && takeBars(item);
                case MARGIN:
                    return takeItemName(item) && takeKind(IS) && takeFormula(item, false);
                default:
                    return takeItemName(item);
            }
        }

        private boolean takeItemName(Item item) {
            boolean well = takeName();
            item.name = got;
            return well;
        }

        private boolean takeTasks(Item item) {
            if (!takeKind(TASKS_WORD)) {
                return false;
            }
            for (int i = 0; i <= CLASS_TASKS; i++) {
                if (i > 0 && lexer.kinds[at] != COMMA) {
                    return true;
                }
                if (i > 0 && !take()) {
                    return false;
                }
                if (i == CLASS_TASKS && lexer.kinds[at] == INT) {
                    return fail(ROOM);
                }
                if (!takeInt(0, TASKS - 1)) {
                    return false;
                }
                item.tasks |= 1 << got;
            }
            return false;
        }

        private boolean takeMargin(Item item) {
            if (lexer.kinds[at] == MARGIN) {
                return take() && takeFormula(item, false);
            }
            if (!takeKind(FOLLOWS) || !takeName()) {
                return false;
            }
            item.tieAward = got;
            if (!takeName()) {
                return false;
            }
            item.tieClass = got;
            return takeKind(PLUS) && takeFormula(item, false);
        }

        private boolean takeBars(Item item) {
            for (int i = 0; i <= ITEM_BARS; i++) {
                if (lexer.kinds[at] != BARS) {
                    return true;
                }
                if (!take()) {
                    return false;
                }
                if (i == ITEM_BARS && lexer.kinds[at] == NAME) {
                    return fail(ROOM);
                }
                if (!takeName()) {
                    return false;
                }
                item.bars |= 1L << got;
            }
            return false;
        }

        private boolean takeFormula(Item item, boolean isCond) {
            formula.begin(isCond);
            for (int i = 0; i <= TOKENS; i++) {
                int number = (int) lexer.says[at];
                if (formula.wantsTicket() && lexer.kinds[at] == INT && number >= TICKETS) {
                    noteLate(WRONG);
                }
                int trouble = formula.wantsSign() ? formula.goOnWithSign(lexer.kinds[at])
                        : formula.goOnWithUnit(lexer.kinds[at], number);
                if (trouble != 0) {
                    return fail(trouble);
                }
                if (formula.ended) {
                    break;
                }
                if (!take()) {
                    return false;
                }
            }
            if (isCond) {
                item.cond = formula.made();
            } else {
                item.sum = formula.made();
            }
            return true;
        }

        private boolean takeInt(int low, int high) {
            if (lexer.kinds[at] != INT) {
                return fail(SYNTAX);
            }
            got = (int) lexer.says[at];
            if (got < low || got > high) {
                noteLate(WRONG);
            }
            return take();
        }

        private boolean takeName() {
            if (lexer.kinds[at] != NAME) {
                return fail(SYNTAX);
            }
            got = numberOf(lexer.says[at]);
            if (got == NONE && nameCount < NAMES) {
                names[nameCount] = lexer.says[at];
                got = nameCount;
                nameCount++;
            } else if (got == NONE && fullPlace == NONE) {
                fullPlace = lexer.places[at];
            }
            return take();
        }

        private int numberOf(long letters) {
            for (int i = 0; i < nameCount; i++) {
                if (names[i] == letters) {
                    return i;
                }
            }
            return NONE;
        }

        private boolean takeKind(int wanted) {
            return lexer.kinds[at] == wanted ? take() : fail(SYNTAX);
        }

        /** For a TOKEN that the text can go on with: at one place SYNTAX comes ahead of ROOM. */
        private boolean take() {
            if (at >= TOKENS) {
                return fail(ROOM);
            }
            at++;
            return true;
        }

        private boolean fail(int number) {
            fault = number;
            faultPlace = lexer.places[at];
            return false;
        }

        private void noteLate(int number) {
            if (lateFault == 0) {
                lateFault = number;
                latePlace = lexer.places[at];
            }
        }
    }

    /** E and COND: made of TOKENS one by one, held as steps behind their operands, and reckoned. */
    private static final class Formula {
        boolean ended;
        private boolean isCond;
        private int state;
        private int brackets;
        /** Whether the LIT has its comparison. */
        private boolean compared;
        private final int[] steps = new int[TOKENS];
        private int stepCount;
        /** Signs whose right side is not whole yet, each as its rank times RANK, and its kind. */
        private final int[] waiting = new int[TOKENS];
        private int waitingCount;
        private final int[] open = new int[OPEN_NUMBERS];

        void begin(boolean cond) {
            isCond = cond;
            state = cond ? AT_LIT : AT_UNIT;
            brackets = 0;
            compared = false;
            ended = false;
            stepCount = 0;
            waitingCount = 0;
        }

        int[] made() {
            return Arrays.copyOf(steps, stepCount);
        }

        boolean wantsSign() {
            return state == BEHIND_UNIT || state == BEHIND_TICKET;
        }

        boolean wantsTicket() {
            return state == AT_TICKET;
        }

        /** Goes on with a TOKEN where no sign is due: the FAULT, or 0. */
        int goOnWithUnit(int kind, int number) {
            if (state == AT_TICKET) {
                return goOnWithOperand(TICKET, number, BEHIND_TICKET, kind == INT);
            }
            if (state == AT_LIT && kind == NOT) {
                putOff(NOT, RANK_NOT);
                return 0;
            }
            if (state == AT_LIT && kind == TICKET) {
                state = AT_TICKET;
                return 0;
            }
            if (kind != OPEN) {
                boolean isInt = kind == INT;
                return goOnWithOperand(kind, isInt ? number : 0, BEHIND_UNIT, isInt || within(kind, LEAST, RATE));
            }
            if (brackets >= BRACKETS) {
                return ROOM;
            }
            brackets++;
            putOff(OPEN, RANK_OPEN);
            state = AT_UNIT;
            return 0;
        }

        private int goOnWithOperand(int kind, int number, int then, boolean can) {
            if (!can) {
                return SYNTAX;
            }
            addStep(kind, number);
            state = then;
            return 0;
        }

        /** Goes on with a TOKEN behind a whole operand, or ends ahead of it: the FAULT, or 0. */
        int goOnWithSign(int kind) {
            boolean behindUnit = state == BEHIND_UNIT;
            if (behindUnit && within(kind, ADD, DIVIDE)) {
                settle(rankOf(kind));
                putOff(kind, rankOf(kind));
                state = AT_UNIT;
                return 0;
            }
            if (behindUnit && kind == CLOSE && brackets > 0) {
                settle(RANK_OPEN + 1);
                waitingCount = Math.max(0, waitingCount - 1);
                brackets--;
                return 0;
            }
            if (behindUnit && isCond && !compared && brackets == 0 && within(kind, EQUAL, AT_MOST)) {
                settle(rankOf(kind));
                putOff(kind, rankOf(kind));
                compared = true;
                state = AT_UNIT;
                return 0;
            }
            if (brackets > 0 || behindUnit && isCond && !compared) {
                return SYNTAX;
            }
            if (isCond && (kind == AND || kind == OR)) {
                settle(rankOf(kind));
                putOff(kind, rankOf(kind));
                compared = false;
                state = AT_LIT;
                return 0;
            }
            settle(RANK_OPEN + 1);
            ended = true;
            return 0;
        }

        private static int rankOf(int kind) {
            switch (kind) {
                case OR:
                    return RANK_NOT - 2;
                case AND:
                    return RANK_NOT - 1;
                case ADD:
                case SUBTRACT:
                    return RANK_NOT + 2;
                case TIMES:
                case DIVIDE:
                    return RANK_NOT + 3;
                default:
                    return RANK_NOT + 1;
            }
        }

        private void putOff(int kind, int rank) {
            if (waitingCount < waiting.length) {
                waiting[waitingCount] = rank * RANK + kind;
                waitingCount++;
            }
        }

        /** Signs of that rank, and of higher ones, have their right side now. */
        private void settle(int rank) {
            while (waitingCount > 0 && waiting[waitingCount - 1] >= rank * RANK) {
                waitingCount--;
                addStep(waiting[waitingCount] % RANK, 0);
            }
        }

        private void addStep(int kind, int number) {
            if (stepCount < steps.length) {
                steps[stepCount] = kind * STEP + number;
                stepCount++;
            }
        }

        /** The number that the steps come to; of a COND 1 if it holds, else 0. */
        int result(int[] of, int[] vars, int tickets) {
            int top = 0;
            boolean byZero = false;
            for (int i = 0; i < of.length; i++) {
                int kind = of[i] / STEP;
                if (kind == INT || kind >= LEAST && kind <= RATE || kind == TICKET) {
                    if (top < open.length) {
                        open[top] = operand(kind, of[i] % STEP, vars, tickets);
                        top++;
                    }
                } else if (kind == NOT) {
                    if (top > 0) {
                        open[top - 1] = 1 - open[top - 1];
                    }
                } else if (top > 1) {
                    top--;
                    byZero = byZero || kind == DIVIDE && open[top] == 0;
                    if (kind >= EQUAL && kind <= AT_MOST) {
                        open[top - 1] = !byZero && isSo(kind, open[top - 1], open[top]) ? 1 : 0;
                        byZero = false;
                    } else {
                        open[top - 1] = joined(kind, open[top - 1], open[top]);
                    }
                }
            }
            return byZero || top == 0 ? 0 : open[0];
        }

        private static int operand(int kind, int number, int[] vars, int tickets) {
            if (kind == INT) {
                return number;
            }
            if (kind == TICKET) {
                return tickets >> number & 1;
            }
            int at = kind - LEAST;
            return at >= 0 && at < vars.length ? vars[at] : 0;
        }

        private static boolean isSo(int kind, int a, int b) {
            switch (kind) {
                case EQUAL:
                    return a == b;
                case UNLIKE:
                    return a != b;
                case BELOW:
                    return a < b;
                default:
                    return a <= b;
            }
        }

        private static int joined(int kind, int a, int b) {
            switch (kind) {
                case ADD:
                    return a + b;
                case SUBTRACT:
                    return a - b;
                case TIMES:
                    return a * b;
                case DIVIDE:
                    return b == 0 ? 0 : a / b;
                case AND:
                    return a & b;
                default:
                    return a | b;
            }
        }
    }

    /** A DAY at a FIRM as KNOWN by n: which TEXTS are in force, and what awards and agrees are there. */
    private static final class Scene {
        final Land land;
        final Ledger ledger;
        final Formula formula;
        /** VARS of a margin; years is 0 in the first, those of the PERSON who is asked in the second. */
        private final int[] ambitVars = new int[VARS];
        private final int[] marginVars = new int[VARS];
        private int walks;
        private Text supposedAward;
        private int supposedName = NONE;
        private int supposedMargin;

        Scene(Land land, Ledger ledger, Formula formula) {
            this.land = land;
            this.ledger = ledger;
            this.formula = formula;
        }

        /** From now on the class has that margin; null: none has another than is told. */
        void suppose(Text award, int name, int v) {
            supposedAward = award;
            supposedName = name;
            supposedMargin = v;
        }

        void open(int firm, int day, int n, int years) {
            int town = land.firmTown[firm];
            ambitVars[VAR_LEAST] = ledger.basket(town, day / QUARTER, n, land.weights);
            ambitVars[VAR_TRADE] = land.firmTrade[firm];
            ambitVars[VAR_TOWN] = town;
            ambitVars[VAR_WHO] = firm;
            System.arraycopy(ambitVars, 0, marginVars, 0, VARS);
            marginVars[VAR_YEARS] = years;
            ledger.setInForce(firm, day, n);
            for (int i = 0; i < ledger.textCount; i++) {
                Text text = ledger.texts[i];
                if (text.inForce && !text.changesAward()) {
                    text.clear();
                    apply(text, text);
                }
            }
            for (int i = 0; i < ledger.textCount; i++) {
                Text text = ledger.texts[i];
                if (text.inForce && text.changesAward() && text.parent.inForce) {
                    apply(text, text.parent);
                }
            }
        }

        void copyVars(int[] vars) {
            System.arraycopy(marginVars, 0, vars, 0, VARS);
        }

        int basket() {
            return marginVars[VAR_LEAST];
        }

        private void apply(Text text, Text whole) {
            for (int i = 0; i < text.items.length; i++) {
                text.items[i].fate = fateOf(text.items[i], whole);
            }
        }

        private int fateOf(Item item, Text whole) {
            switch (item.kind) {
                case CLASS:
                case LOAD:
                case EXTRA:
                    whole.put(item);
                    return DID;
                case CHOOSE:
                    whole.choose = item.number;
                    return DID;
                case ROUND:
                    whole.round = item.number;
                    return DID;
                case STRIKE:
                    return whole.drop(item.name) ? DID : GONE;
                case MARGIN:
                    int entry = whole.classEntry(item.name);
                    if (entry == NONE) {
                        return GONE;
                    }
                    if (!within(formula.result(item.sum, ambitVars, 0), item.low, item.high)) {
                        return FALLS;
                    }
                    whole.tellsMargin[entry] = item;
                    return DID;
                default:
                    return DID;
            }
        }

        /** MARGIN of the class that stands at the entry of an award or agree in force. */
        int marginOf(Text text, int entry) {
            walks++;
            int sum = 0;
            Text at = text;
            int place = entry;
            for (int i = 0; i < TIES; i++) {
                if (at == supposedAward && at.stands[place].name == supposedName) {
                    sum += supposedMargin;
                    break;
                }
                at.walked[place] = walks;
                Item teller = at.tellsMargin[place];
                sum += formula.result(teller.sum, marginVars, 0);
                at = teller.tieAward == NONE ? null : ledger.awardNamed(teller.tieAward);
                place = at == null || !at.inForce ? NONE : at.classEntry(teller.tieClass);
                if (place == NONE || at.walked[place] == walks) {
                    break;
                }
            }
            return held(sum, -AMOUNT, AMOUNT);
        }
    }

    /** A PERSON's WEEK as KNOWN by n, and one DAY of it at a time, HALF by HALF. */
    private static final class Reckoning {
        final Ledger ledger;
        final Scene scene;
        private int person;
        private int week;
        private int known;
        private final Fact[] rows = new Fact[WEEK];

        final int[] tasks = new int[HALVES];
        private final int[] worked = new int[HALVES];
        private int workedAhead;
        final int[] bound = new int[HALVES];
        final Text[] award = new Text[HALVES];
        final int[] awardClass = new int[HALVES];
        private final Text[] agree = new Text[HALVES];
        private final int[] agreeClass = new int[HALVES];
        final Text[] payer = new Text[HALVES];
        final int[] worth = new int[HALVES];

        private final int[] vars = new int[VARS];
        int rate;
        final int[] counted = new int[NAMES];
        int countedItems;

        Reckoning(Ledger ledger, Scene scene) {
            this.ledger = ledger;
            this.scene = scene;
        }

        void load(int ofPerson, int ofWeek, int n) {
            person = ofPerson;
            week = ofWeek;
            known = n;
            for (int i = 0; i < WEEK; i++) {
                rows[i] = null;
            }
            for (int i = 0; i < n; i++) {
                Fact fact = ledger.facts[i];
                if (fact.kind == A_ROW && fact.subject == person && fact.time / WEEK == week) {
                    rows[fact.time % WEEK] = fact;
                }
            }
        }

        int doneIn(int weekday, int half) {
            Fact row = rows[weekday];
            if (row == null) {
                return NONE;
            }
            return half < row.cells.length ? row.cells[half] : UNKNOWN;
        }

        private int tasksOn(int weekday) {
            int found = 0;
            int cells = rows[weekday] == null ? 0 : rows[weekday].cells.length;
            for (int half = 0; half < cells; half++) {
                if (isTask(rows[weekday].cells[half])) {
                    found++;
                }
            }
            return found;
        }

        int weekPay(int ofPerson, int ofWeek, int n) {
            load(ofPerson, ofWeek, n);
            for (int i = 0; i < ledger.textCount; i++) {
                ledger.texts[i].total = 0;
            }
            boolean any = false;
            for (int weekday = 0; weekday < WEEK; weekday++) {
                if (tasksOn(weekday) > 0) {
                    any = true;
                    reckon(weekday);
                    addUp();
                }
            }
            return any ? rounded() : 0;
        }

        private void addUp() {
            for (int half = 0; half < HALVES; half++) {
                if (award[half] != null) {
                    award[half].total += worth[half];
                }
            }
        }

        private int rounded() {
            scene.open(scene.land.personFirm[person], week * WEEK + WEEK - 1, known, 0);
            long sum = 0;
            for (int i = 0; i < ledger.textCount; i++) {
                Text text = ledger.texts[i];
                long step = text.inForce && text.kind == AN_AWARD ? Math.max(1, text.round) : 1;
                sum += (text.total + step * PENNY / 2) / (step * PENNY) * step;
            }
            return (int) sum;
        }

        void reckon(int weekday) {
            workedAhead = 0;
            for (int i = 0; i < weekday; i++) {
                workedAhead += tasksOn(i);
            }
            takeTasks(weekday);
            if (tasksOn(weekday) == 0) {
                return;
            }
            int firm = scene.land.personFirm[person];
            int day = week * WEEK + weekday;
            scene.open(firm, day, known, scene.land.personYears[person]);
            scene.copyVars(vars);
            vars[VAR_WEEKDAY] = weekday;
            vars[VAR_WET] = ledger.lastWet(firm, day, known);
            for (int half = 0; half < HALVES; half++) {
                if (isTask(tasks[half])) {
                    bind(half);
                }
            }
            findClasses(award, awardClass);
            findClasses(agree, agreeClass);
            for (int half = 0; half < HALVES; half++) {
                if (award[half] != null) {
                    findPayer(half);
                }
            }
        }

        /** A DAY on which nothing is bound or paid yet. */
        private void takeTasks(int weekday) {
            int sofar = 0;
            for (int half = 0; half < HALVES; half++) {
                tasks[half] = doneIn(weekday, half);
                worked[half] = sofar;
                sofar += isTask(tasks[half]) ? 1 : 0;
                bound[half] = NONE;
                award[half] = null;
                awardClass[half] = NONE;
                agree[half] = null;
                agreeClass[half] = NONE;
                payer[half] = null;
                worth[half] = 0;
            }
        }

        private void lookAt(int half) {
            vars[VAR_TASK] = tasks[half];
            vars[VAR_HALF] = half;
            vars[VAR_WORKED] = worked[half];
            vars[VAR_WEEK] = workedAhead + worked[half];
            vars[VAR_RATE] = 0;
        }

        private void bind(int half) {
            lookAt(half);
            int binding = 0;
            for (int i = 0; i < ledger.textCount; i++) {
                Text text = ledger.texts[i];
                text.binds = !text.changesAward() && text.inForce && someBindsHolds(text);
                binding += text.binds && text.kind == AN_AWARD ? 1 : 0;
            }
            if (binding == 0) {
                return;
            }
            Text last = null;
            int left = 0;
            for (int i = 0; i < ledger.textCount; i++) {
                Text text = ledger.texts[i];
                if (text.kind == AN_AWARD && text.binds && !isOutdone(text)) {
                    last = text;
                    left++;
                }
            }
            bound[half] = left == 1 && last != null ? last.fact : QUARREL;
            award[half] = left == 1 ? last : null;
            agree[half] = award[half] == null ? null : lastAgree(award[half]);
        }

        private boolean someBindsHolds(Text text) {
            for (int i = 0; i < text.items.length; i++) {
                Item item = text.items[i];
                if (item.kind == BINDS && holds(item)) {
                    return true;
                }
            }
            return false;
        }

        private boolean holds(Item item) {
            return scene.formula.result(item.cond, vars, scene.land.personTickets[person]) == 1;
        }

        private boolean isOutdone(Text text) {
            for (int i = 0; i < ledger.textCount; i++) {
                Text other = ledger.texts[i];
                if (other != text && other.kind == AN_AWARD && other.binds && other.isOver(text.name)) {
                    return true;
                }
            }
            return false;
        }

        private Text lastAgree(Text of) {
            Text found = null;
            for (int i = 0; i < ledger.textCount; i++) {
                Text text = ledger.texts[i];
                if (text.kind == AN_AGREE && text.parent == of && text.binds) {
                    found = text;
                }
            }
            return found;
        }

        /** The class of each HALF by the TEXT that it has in the first row. */
        private void findClasses(Text[] by, int[] entries) {
            for (int half = 0; half < HALVES; half++) {
                entries[half] = by[half] == null ? NONE : by[half].firstClass(tasks[half]);
            }
            for (int i = 0; i < ledger.textCount; i++) {
                Text text = ledger.texts[i];
                if (text.inForce && text.choose != EACH) {
                    int chosen = chosenClass(text, by, entries);
                    for (int half = 0; half < HALVES; half++) {
                        if (by[half] == text && entries[half] != NONE) {
                            entries[half] = chosen;
                        }
                    }
                }
            }
        }

        private int chosenClass(Text text, Text[] by, int[] entries) {
            int[] tally = text.tally;
            Arrays.fill(tally, 0);
            for (int half = 0; half < HALVES; half++) {
                if (by[half] == text && entries[half] != NONE) {
                    tally[entries[half]]++;
                }
            }
            int chosen = NONE;
            int most = 0;
            int greatest = 0;
            for (int i = 0; i < text.standing; i++) {
                if (tally[i] > 0) {
                    int halvesHere = text.choose == MOST ? tally[i] : 1;
                    int marginHere = scene.marginOf(text, i);
                    if (halvesHere > most || halvesHere == most && marginHere > greatest) {
                        chosen = i;
                        most = halvesHere;
                        greatest = marginHere;
                    }
                }
            }
            return chosen;
        }

        private void findPayer(int half) {
            int byAward = worthBy(award[half], awardClass[half], half);
            int byAgree = worthBy(agree[half], agreeClass[half], half);
            worth[half] = Math.max(byAward, byAgree);
            if (worth[half] > 0) {
                payer[half] = byAgree > byAward ? agree[half] : award[half];
            }
        }

        /** Leaves the RATE, and what counted, of a HALF by its payer behind. */
        void repeat(int half) {
            boolean isAward = payer[half] == award[half];
            worthBy(payer[half], isAward ? awardClass[half] : agreeClass[half], half);
        }

        private int worthBy(Text text, int entry, int half) {
            countedItems = 0;
            if (text == null || entry == NONE) {
                return 0;
            }
            lookAt(half);
            rate = Math.max(0, scene.basket() + scene.marginOf(text, entry));
            vars[VAR_RATE] = rate;
            int loads = 100;
            int extras = 0;
            long barred = 0;
            for (int i = 0; i < text.standing; i++) {
                Item item = text.stands[i];
                if (item.kind != CLASS && (barred >> item.name & 1) == 0 && (item.cond.length == 0 || holds(item))) {
                    int more = scene.formula.result(item.sum, vars, 0);
                    loads += item.kind == LOAD ? held(more, LEAST_LOAD, MOST_LOAD) : 0;
                    extras += item.kind == EXTRA ? held(more, 0, MOST_EXTRA) : 0;
                    barred |= item.bars;
                    counted[countedItems] = item.name;
                    countedItems++;
                }
            }
            return rate * held(loads, 0, MOST_LOADS) + PENNY * Math.min(extras, MOST_EXTRAS);
        }

        /** What a HALF of the DAY is, as halves() asks. */
        boolean isSuch(int half, int what) {
            boolean has = isTask(tasks[half]);
            switch (what) {
                case 0:
                    return has;
                case 1:
                    return tasks[half] == UNKNOWN;
                case 2:
                    return has && bound[half] == NONE;
                case 3:
                    return has && bound[half] == QUARREL;
                default:
                    return award[half] != null && awardClass[half] == NONE && worth[half] == 0;
            }
        }
    }

    /** VALUES of TASKS, which are APART, and THE PARTING that was found last. */
    private static final class Parting {
        final int[] values = new int[TASKS];
        /** Of each TASK those that are apart from it, as bits. */
        private final int[] apartFrom = new int[TASKS];
        final int[] classOf = new int[TASKS];
        final int[] valueOf = new int[TASKS];

        private final int[] members = new int[PARTED];
        private int size;
        private final int[] group = new int[PARTED];
        private final int[] groupValue = new int[PARTED];
        private final int[] bestGroup = new int[PARTED];
        private final int[] bestValue = new int[PARTED];
        private int bestChanged;
        private int bestGroups;

        Parting() {
            Arrays.fill(classOf, NONE);
        }

        void setApart(int one, int other, boolean is) {
            int bit = 1 << other;
            apartFrom[one] = is ? apartFrom[one] | bit : apartFrom[one] & ~bit;
        }

        int divide(int set, int k, int d) {
            gather(set);
            bestChanged = NONE;
            boolean more = size > 0;
            for (int i = 0; i < WAYS && more; i++) {
                weigh(k, d);
                more = nextWay();
            }
            if (bestChanged == NONE) {
                return NO_PARTING;
            }
            remember();
            return bestChanged;
        }

        private void gather(int set) {
            size = 0;
            for (int task = 0; task < TASKS && size < PARTED; task++) {
                if ((set >> task & 1) == 1) {
                    members[size] = task;
                    group[size] = 0;
                    size++;
                }
            }
        }

        /** Ways come in the order of their class numbers, so that of alike ones the first is met first. */
        private boolean nextWay() {
            for (int i = size - 1; i > 0; i--) {
                if (group[i] < groupsAmong(i)) {
                    group[i]++;
                    for (int j = i + 1; j < size; j++) {
                        group[j] = 0;
                    }
                    return true;
                }
            }
            return false;
        }

        private int groupsAmong(int first) {
            int most = 0;
            for (int i = 0; i < first; i++) {
                most = Math.max(most, group[i] + 1);
            }
            return most;
        }

        private void weigh(int k, int d) {
            int groups = groupsAmong(size);
            if (groups > k) {
                return;
            }
            int changed = 0;
            for (int g = 0; g < groups; g++) {
                int unlike = isTorn(g) ? NONE : settle(g, d);
                if (unlike == NONE) {
                    return;
                }
                changed += unlike;
            }
            if (bestChanged == NONE || changed < bestChanged || changed == bestChanged && groups < bestGroups) {
                bestChanged = changed;
                bestGroups = groups;
                System.arraycopy(group, 0, bestGroup, 0, size);
                System.arraycopy(groupValue, 0, bestValue, 0, size);
            }
        }

        private boolean isTorn(int g) {
            int together = 0;
            for (int i = 0; i < size; i++) {
                if (group[i] == g) {
                    if ((apartFrom[members[i]] & together) != 0) {
                        return true;
                    }
                    together |= 1 << members[i];
                }
            }
            return false;
        }

        /** Finds the class's value: how many of its TASKS have another one; NONE if no value can be. */
        private int settle(int g, int d) {
            int low = 0;
            int high = AMOUNT;
            int all = 0;
            for (int i = 0; i < size; i++) {
                if (group[i] == g) {
                    low = Math.max(low, values[members[i]] - d);
                    high = Math.min(high, values[members[i]] + d);
                    all++;
                }
            }
            if (low > high) {
                return NONE;
            }
            groupValue[g] = low;
            int most = withValue(g, low);
            for (int i = 0; i < size; i++) {
                int v = values[members[i]];
                if (group[i] == g && within(v, low, high)) {
                    int alike = withValue(g, v);
                    if (alike > most || alike == most && v < groupValue[g]) {
                        groupValue[g] = v;
                        most = alike;
                    }
                }
            }
            return all - most;
        }

        private int withValue(int g, int v) {
            int found = 0;
            for (int i = 0; i < size; i++) {
                if (group[i] == g && values[members[i]] == v) {
                    found++;
                }
            }
            return found;
        }

        private void remember() {
            Arrays.fill(classOf, NONE);
            for (int i = 0; i < size; i++) {
                classOf[members[i]] = bestGroup[i];
                valueOf[members[i]] = bestValue[bestGroup[i]];
            }
        }
    }
}
