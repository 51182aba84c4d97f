import java.util.ArrayList;
import java.util.List;

/**
 * Two courts that are told the same, and one of them then what it has to refuse: it changes nothing, so both
 * answer all alike.
 */
final class Twins {
    interface Told {
        void to(WageCourt court);
    }

    interface Call {
        long on(WageCourt court);
    }

    private final WageCourt court;
    private final List<String> calls = new ArrayList<>();
    private final List<Long> answers = new ArrayList<>();

    private Twins(WageCourt court) {
        this.court = court;
    }

    /** The call answers what is due, and nothing is otherwise than without it. */
    static void refused(String what, Told told, long due, Call call) {
        unchanged(what, told, court -> Check.due(what, call.on(court), due));
    }

    static void refused(String what, Told told, boolean due, Call call) {
        refused(what, told, due ? 1 : 0, call);
    }

    /** Whatever is called, nothing is otherwise than without it. */
    static void unchanged(String what, Told told, Told called) {
        WageCourt one = new WageCourt();
        WageCourt other = new WageCourt();
        told.to(one);
        told.to(other);
        called.to(one);
        Twins first = new Twins(one);
        Twins second = new Twins(other);
        first.askAll();
        second.askAll();
        for (int i = 0; i < second.calls.size(); i++) {
            Check.due(second.calls.get(i) + " behind " + what, first.answers.get(i), second.answers.get(i));
        }
    }

    static int bit(boolean is) {
        return is ? 1 : 0;
    }

    private void add(String call, long answer) {
        calls.add(call);
        answers.add(answer);
    }

    /** Some 300 calls, so that telling and asking stay under 512; each asks for something else. */
    private void askAll() {
        for (int what = 0; what <= 6; what++) {
            add("count(" + what + ")", court.count(what));
        }
        add("place()", court.place());
        askPrices();
        int told = 0;
        for (int fact = 0; fact < Math.min(20, court.count(3)) && told < 3; fact++) {
            if (court.award(fact) != -1) {
                askText(fact);
                told++;
            }
        }
        int n = court.count(3);
        add("kind of the last", court.kind(n - 1));
        add("kind behind the last", court.kind(n));
        for (int person = 0; person < 2; person++) {
            askPerson(person, n);
        }
        add("turned", court.turned(0, n));
        askParts();
        add("named", court.count(6) > 0 && court.count(6) < 12 ? court.named() : -9);
        add("read", court.read());
        add("place of the read", court.place());
        add("names behind it", court.count(5));
    }

    private void askPrices() {
        int n = court.count(3);
        for (int town = 0; town < 2; town++) {
            for (int quarter = 0; quarter < 4; quarter += 3) {
                add("least(" + town + "," + quarter + ")", court.least(town, quarter, n));
                for (int good = 0; good < 4; good++) {
                    add("priced(" + town + "," + quarter + "," + good + ")", court.priced(town, quarter, good, n));
                }
            }
        }
    }

    private void askText(int text) {
        int n = court.count(3);
        add("award of " + text, court.award(text));
        add("kind of " + text, court.kind(text));
        add("force of " + text, court.force(text, 0, 0, n));
        add("force of " + text + " on the last day", court.force(text, 139, 0, n));
        for (int k = 0; k < 3; k++) {
            add("item " + k + " of " + text, court.item(text, 0, 0, k, n, 1));
            add("teller of item " + k + " of " + text, court.item(text, 0, 0, k, n, 2));
            add("fate " + k + " of " + text, court.fate(text, k, 0, 0, n));
        }
        for (int name = 0; name < 4; name++) {
            add("margin " + name + " of " + text, court.margin(text, name, 0, 0, n));
        }
    }

    private void askPerson(int person, int n) {
        for (int half = 0; half < 48; half += half == 2 ? 45 : 1) {
            String at = " of person " + person + " in half " + half;
            add("did" + at, court.did(person, 0, half, n));
            add("bound" + at, court.bound(person, 0, half, n));
            add("classed" + at, court.classed(person, 0, half, n));
            add("nearest" + at, court.nearest(person, 0, half, n));
            add("payer" + at, court.payer(person, 0, half, n));
            add("rate" + at, court.rate(person, 0, half, n));
            add("worth" + at, court.worth(person, 0, half, n));
        }
        for (int week = 0; week < 20; week += 19) {
            String at = " of person " + person + " in week " + week;
            add("pay" + at, court.pay(person, week, n));
            add("owed" + at, court.owed(person, week, n));
            add("unknown" + at, court.halves(person, week, n, 1));
        }
    }

    private void askParts() {
        for (int task = 0; task < 16; task++) {
            add("class of task " + task, court.part(task, 0));
            add("value of task " + task, court.part(task, 1));
        }
        int[] sets = {0x7f, 0x3f80, 0xc003};
        for (int set : sets) {
            add("parting of " + set, court.parting(set, 7, 0));
            for (int task = 0; task < 16; task++) {
                if ((set >> task & 1) == 1) {
                    add("class of task " + task + " in " + set, court.part(task, 0));
                    add("value of task " + task + " in " + set, court.part(task, 1));
                }
            }
        }
    }
}
