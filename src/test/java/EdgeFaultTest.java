/** Boundary cases of the FAULTS 2 to 6 and of the numbers in II (Terms). */
final class EdgeFaultTest {
    private static final String ALWAYS = "award a from 0; binds if 0 == 0; ";

    public static void main(String[] args) {
        roomOfTokens();
        roomOfItems();
        roomOfBrackets();
        roomOfTasks();
        roomOfBars();
        roomComesFirst();
        twice();
        noSuchName();
        wrongFirms();
        wrongDays();
        wrongTasks();
        wrongTickets();
        wrongRounds();
        misplaced();
        firstOfThese();
        full();
        fullComesLast();
        changesNothing();
        wraps();
        rounds();
        dividedByZero();
        Check.end();
    }

    /** A court with the award aa. */
    private static WageCourt court() {
        WageCourt x = new WageCourt();
        Check.tell(x, "award aa from 0;");
        return x;
    }

    private static void fine(String text) {
        Check.tell(court(), text);
    }

    private static void fault(String text, int number, int place) {
        Check.fault(court(), text, number, place);
    }

    /** A text of so many TOKENS (12 at least): sums of + 1 and, where that does not come out, a not. */
    private static String ofTokens(int tokens) {
        int left = tokens - 12;
        return "award b from 0;load c 1" + "+1".repeat(left / 2) + (left % 2 == 0 ? " if ticket 1;" : " if not ticket 1;");
    }

    private static void roomOfTokens() {
        Check.holds("Terms", "2 ROOM: a 501st TOKEN;");
        int[] fit = {12, 13, 498, 499, 500};
        for (int tokens : fit) {
            fine(ofTokens(tokens));
        }
        String all = ofTokens(500);
        fine(all + " \n ");
        String[] more = {"round 1;", " round", " choose each;", "round 1; round 1;", "load (((((((", " over b; ?"};
        for (String next : more) {
            fault(all + next, 2, all.length() + (next.startsWith(" ") ? 1 : 0));
        }
        fault(ofTokens(501), 2, ofTokens(501).length() - 1);
        fault(ofTokens(502), 2, ofTokens(502).length() - 2);
        fault(ofTokens(503), 2, ofTokens(503).length() - 9);
        fault(ofTokens(510), 2, "award b from 0;load c 1".length() + 2 * 246);
        String[] none = {"?", "b", "1", ";", "12345", "firm"};
        for (String next : none) {
            fault(all + next, 1, all.length());
        }
        String open = "award b from 0;load c 1" + "+1".repeat(246);
        fault(open, 1, open.length());
        fault(open + "+", 2, open.length());
        fault(open + ";", 2, open.length());
        fault(open + "if", 2, open.length());
        fault(open + "from", 1, open.length());
    }

    private static void roomOfItems() {
        Check.holds("Terms", "a 31st ITEM (at its first TOKEN);");
        String[] heads = {"award b from 0;", "vary aa from 0;", "order aa firm 0 from 0;", "agree aa firm 0 from 0;"};
        for (String head : heads) {
            fine(head + "round 1;".repeat(29));
            fine(head + "round 1;".repeat(30));
            String full = head + "choose most;".repeat(15) + "load c 1;".repeat(15);
            fine(full);
            fault(full + "round 1;", 2, full.length());
            fault(full + "  load c 1; round 1;", 2, full.length() + 2);
            fault(full + "class", 2, full.length());
            fault(full + "class ?", 2, full.length());
            fault(full + "?", 1, full.length());
            fault(full + "class,", 2, full.length());
            fault(full + ",class", 1, full.length());
        }
    }

    private static void roomOfBrackets() {
        Check.holds("Terms", "a 7th ( within one another (at it);");
        String load = "award b from 0; load c ";
        int at = load.length();
        for (int depth = 0; depth <= 6; depth++) {
            fine(load + "(".repeat(depth) + "1" + ")".repeat(depth) + ";");
        }
        fault(load + "(((((((1)))))));", 2, at + 6);
        fault(load + "((((((((1))))))));", 2, at + 6);
        fault(load + "((((((1)))))) + (((((((1)))))));", 2, at + 22);
        fine(load + "((((((1)))))) + ((((((1)))))) * ((((((1))))));");
        fine(load + "(1)+(1)+(1)+(1)+(1)+(1)+(1)+(1)+(1);");
        fine(load + "(((((1 + (1) + (1) + (1))))));");
        fault(load + "(((((1 + (1) + (1 + (1)))))));", 2, at + 20);
        fine(load + "((((((1)))))) if ((((((1)))))) == ((((((1)))))) and ((((((1)))))) < ((((((1))))));");
        fault(load + "1 if (((((((1", 2, at + 11);
        fault(load + "1 if 1 <= (((((((1", 2, at + 16);
        fault("award b from 0; class c tasks 1 margin (((((((1", 2, 45);
        fault("award b from 0; class c tasks 1 follows d e plus (((((((1", 2, 55);
        fault("vary aa from 0; margin c is (((((((1", 2, 34);
        fault("award b from 0; binds if (((((((1", 2, 31);
    }

    private static void roomOfTasks() {
        Check.holds("Terms", "a 9th TASK of a class, a 5th bars of one (at its INT, NAME).");
        String head = "award b from 0; class c tasks ";
        fine(head + "0 margin 1;");
        fine(head + "0,1,2,3,4,5,6 margin 1;");
        fine(head + "0,1,2,3,4,5,6,7 margin 1;");
        fine(head + "0,0,0,0,0,0,0,0 follows d e plus 1;");
        fault(head + "0,1,2,3,4,5,6,7,8 margin 1;", 2, head.length() + 16);
        fault(head + "0,1,2,3,4,5,6,7, 8, 9 margin 1;", 2, head.length() + 17);
        fault(head + "0,0,0,0,0,0,0,0,0 margin 1;", 2, head.length() + 16);
        fault(head + "0,1,2,3,4,5,6,7,9999 margin 1;", 2, head.length() + 16);
        fault(head + "0,1,2,3,4,5,6,7, margin 1;", 1, head.length() + 17);
        fine(head + "0,1,2,3,4,5,6,7 margin 1; class d tasks 0,1,2,3,4,5,6,7 margin 1;");
    }

    private static void roomOfBars() {
        String[] heads = {"award b from 0; load c 1", "award b from 0; extra c 1 if 1 == 1", "vary aa from 0; load c 1"};
        for (String head : heads) {
            fine(head + ";");
            fine(head + " bars d bars e bars f;");
            fine(head + " bars d bars e bars f bars g;");
            fine(head + " bars d bars d bars d bars d;");
            fault(head + " bars d bars e bars f bars g bars h;", 2, head.length() + 34);
            fault(head + " bars d bars d bars d bars d bars d;", 2, head.length() + 34);
            fault(head + " bars d bars e bars f bars g bars;", 1, head.length() + 33);
            fault(head + " bars d bars e bars f bars g h;", 1, head.length() + 29);
            fine(head + " bars d bars e bars f bars g; load i 1 bars d bars e bars f bars g;");
        }
    }

    private static void roomComesFirst() {
        Check.holds("Terms", "If there is none, likewise:");
        fault("award aa from 0; load c (((((((1", 2, 30);
        fault("vary b from 0; load c (((((((1", 2, 28);
        fault("award b from 140; load c (((((((1", 2, 31);
        fault("award aa from 140; strike c", 1, 27);
        fault("vary b from 140; binds if ticket 8; ?", 1, 36);
        fault("award b from 140; strike c; margin", 1, 34);
        fault("award aa from 140;", 3, 6);
        fault("vary b from 140;", 4, 5);
        fault("award b from 140; strike c; round 0;", 5, 13);
    }

    private static void twice() {
        Check.holds("Terms", "3 TWICE: an award's NAME that an award has.");
        WageCourt x = court();
        Check.fault(x, "award aa from 0;", 3, 6);
        Check.fault(x, "\n\n award   aa from 5;", 3, 11);
        Check.tell(x, "award b from 0; class c tasks 1 margin 1; over d; over b; class b tasks 1 margin 1;");
        Check.fault(x, "award b from 0;", 3, 6);
        Check.tell(x, "vary b from 0; load e 1;");
        Check.tell(x, "agree b firm 0 from 0; load f 1;");
        Check.tell(x, "award c from 0;");
        Check.tell(x, "award d from 0; award".substring(0, 15));
        Check.tell(x, "award e from 0;");
        Check.tell(x, "award f from 0;");
        Check.fault(x, "award f from 0;", 3, 6);
        Check.fault(x, "award g from 0", 1, 14);
        Check.tell(x, "award g from 0;");
        x.stay(0, 0, 140);
        Check.fault(x, "award aa from 0;", 3, 6);
    }

    private static void noSuchName() {
        Check.holds("Terms", "4 NAME: a vary's, order's, agree's NAME that no award has.");
        WageCourt x = new WageCourt();
        String[] heads = {"vary ", "order ", "agree "};
        for (String head : heads) {
            String rest = head.equals("vary ") ? " from 0;" : " firm 0 from 0;";
            Check.fault(x, head + "b" + rest, 4, head.length());
            Check.fault(x, head + "  b" + rest, 4, head.length() + 2);
        }
        Check.tell(x, "award b from 0; over c; class d tasks 1 margin 1;");
        for (String head : heads) {
            String rest = head.equals("vary ") ? " from 0;" : " firm 0 from 0;";
            Check.tell(x, head + "b" + rest);
            Check.fault(x, head + "c" + rest, 4, head.length());
            Check.fault(x, head + "d" + rest, 4, head.length());
            Check.fault(x, head + "e" + rest, 4, head.length());
        }
        Check.tell(x, "award c from 139;");
        Check.tell(x, "vary c from 0;");
        Check.fault(x, "vary d from 0;", 4, 5);
        Check.tell(x, "vary b from 0; over".substring(0, 14));
    }

    private static void wrongFirms() {
        Check.holds("Terms", "5 WRONG: an INT that is none such: a FIRM 0 .. 7,");
        String[] fine = {"0", "1", "6", "7", "07", "0007"};
        String[] wrong = {"8", "9", "08", "10", "100", "9999"};
        for (String head : new String[] {"order", "agree"}) {
            for (String firm : fine) {
                fine(head + " aa firm " + firm + " from 0;");
            }
            for (String firm : wrong) {
                fault(head + " aa firm " + firm + " from 0;", 5, 14);
            }
        }
    }

    private static void wrongDays() {
        Check.holds("Terms", "a DAY 0 .. 139,");
        String[] fine = {"0", "1", "138", "139", "0139"};
        String[] wrong = {"140", "141", "0140", "999", "9999"};
        String[] heads = {"award b", "vary aa", "order aa firm 0", "agree aa firm 0"};
        for (String head : heads) {
            for (String day : fine) {
                fine(head + " from " + day + ";");
            }
            for (String day : wrong) {
                fault(head + " from " + day + ";", 5, head.length() + 6);
            }
        }
    }

    private static void wrongTasks() {
        Check.holds("Terms", "a TASK 0 .. 15,");
        String[] fine = {"0", "1", "14", "15", "015"};
        String[] wrong = {"16", "17", "016", "32", "9999"};
        for (String head : new String[] {"award b from 0;", "vary aa from 0;"}) {
            for (String task : fine) {
                fine(head + "class c tasks " + task + " margin 1;");
                fine(head + "class c tasks 1, 2, 3, 4, 5, 6, 7, " + task + " margin 1;");
            }
            for (String task : wrong) {
                fault(head + "class c tasks " + task + " margin 1;", 5, 29);
                fault(head + "class c tasks 1, " + task + " margin 1;", 5, 32);
                fault(head + "class c tasks 1, 2, 3, 4, 5, 6, 7, " + task + " margin 1;", 5, 50);
            }
        }
    }

    private static void wrongTickets() {
        Check.holds("Terms", "a TICKET 0 .. 7,");
        String[] fine = {"0", "1", "6", "7", "007"};
        String[] wrong = {"8", "9", "008", "9999"};
        for (String ticket : fine) {
            fine("award b from 0; binds if ticket " + ticket + ";");
            fine("vary aa from 0; load c 1 if 1 == 1 or not ticket " + ticket + " and ticket " + ticket + ";");
        }
        for (String ticket : wrong) {
            fault("award b from 0; binds if ticket " + ticket + ";", 5, 32);
            fault("vary aa from 0; load c 1 if 1 == 1 or not ticket " + ticket + ";", 5, 49);
        }
    }

    private static void wrongRounds() {
        Check.holds("Terms", "round's 1 .. 240;");
        String[] fine = {"1", "2", "239", "240", "0001"};
        String[] wrong = {"0", "00", "0000", "241", "0241", "9999"};
        for (String head : new String[] {"award b from 0;", "vary aa from 0;"}) {
            for (String step : fine) {
                fine(head + "round " + step + ";");
            }
            for (String step : wrong) {
                fault(head + "round " + step + ";", 5, 21);
            }
        }
    }

    private static void misplaced() {
        Check.holds("Terms", "strike or margin .. is in an award or agree (at that word); binds, over in a vary, order (at"
                + " it).");
        String[] own = {"award b from 0; ", "agree aa firm 0 from 0; "};
        String[] changes = {"vary aa from 0; ", "order aa firm 0 from 0; "};
        String[] ofChanges = {"strike c;", "margin c is 1;"};
        String[] ofOwn = {"binds if 1 == 1;", "over c;"};
        String[] ofBoth = {"class c tasks 1 margin 1;", "load c 1;", "extra c 1;", "round 1;", "choose most;"};
        for (int i = 0; i < 2; i++) {
            for (int j = 0; j < 2; j++) {
                fault(own[i] + ofChanges[j], 5, own[i].length());
                fault(own[i] + "round 1; " + ofChanges[j], 5, own[i].length() + 9);
                fine(own[i] + ofOwn[j]);
                fault(changes[i] + ofOwn[j], 5, changes[i].length());
                fault(changes[i] + "round 1; " + ofOwn[j], 5, changes[i].length() + 9);
                fine(changes[i] + ofChanges[j]);
            }
            for (String item : ofBoth) {
                fine(own[i] + item);
                fine(changes[i] + item);
            }
        }
    }

    private static void firstOfThese() {
        fault("order b firm 8 from 140;", 4, 6);
        fault("order aa firm 8 from 140;", 5, 14);
        fault("award b from 0; round 0; strike c;", 5, 22);
        fault("award b from 0; strike c; round 0;", 5, 16);
        fault("award b from 0; class c tasks 16, 17 margin 1; binds if ticket 8;", 5, 30);
    }

    /** A court with so many NAMES, va .. of them, the award va among them. */
    private static void named(WageCourt x, int names) {
        int told = 1;
        Check.tell(x, "award va from 0;");
        while (told < names) {
            StringBuilder text = new StringBuilder("vary va from 0;");
            for (int i = 0; i < 29 && told < names; i++) {
                text.append("strike ").append(name(told)).append(";");
                told++;
            }
            Check.tell(x, text.toString());
        }
        Check.due("names", x.count(5), names);
    }

    private static String name(int i) {
        return (char) ('v' + i / 26) + "" + (char) ('a' + i % 26);
    }

    private static WageCourt withNames(int names) {
        WageCourt x = new WageCourt();
        named(x, names);
        return x;
    }

    private static void full() {
        Check.holds("Terms", "6 FULL: behind all: there would be more than 60 NAMES (at the first one too many).");
        Check.tell(withNames(58), "award b from 0;");
        Check.tell(withNames(58), "award b from 0; over c;");
        Check.fault(withNames(58), "award b from 0; over c; over d;", 6, 29);
        Check.fault(withNames(58), "award b from 0; over c; over d; over e;", 6, 29);
        Check.tell(withNames(58), "award b from 0; over c; over b; over c; over va;");
        Check.tell(withNames(59), "award b from 0;");
        Check.fault(withNames(59), "award b from 0; over c;", 6, 21);
        Check.fault(withNames(60), "award b from 0;", 6, 6);
        Check.tell(withNames(60), "award vb from 0; over va; class vc tasks 1 follows vd ve plus 1;");
        WageCourt x = withNames(60);
        String[] texts = {"class b tasks 1 margin 1;", "class va tasks 1 follows b va plus 1;",
            "class va tasks 1 follows va b plus 1;", "load b 1;", "extra b 1;", "load va 1 bars b;",
            "load va 1 bars vb bars b;", "strike b;", "margin b is 1;"};
        for (String item : texts) {
            Check.fault(x, "vary va from 0; " + item, 6, 16 + item.lastIndexOf(" b") + 1);
        }
        Check.due("names behind it", x.count(5), 60);
        Check.tell(x, "vary va from 0; strike vb; strike " + name(59) + ";");
        Check.due("names behind it", x.count(5), 60);
    }

    private static void fullComesLast() {
        Check.fault(withNames(60), "award b from 140;", 5, 13);
        Check.fault(withNames(60), "vary b from 0;", 4, 5);
        Check.fault(withNames(60), "award b from 0; over c; round 0;", 5, 30);
        Check.fault(withNames(60), "award b from 0; over c; ?", 1, 24);
        Check.fault(withNames(60), "award va from 0; over c;", 3, 6);
        Check.fault(withNames(60), "award b from 0; over c; load d (((((((1", 2, 37);
        Check.fault(withNames(59), "vary va from 0; strike b; strike c; binds if 1 == 1;", 5, 36);
    }

    private static void told(WageCourt x) {
        x.town();
        x.firm(0, 0);
        x.person(0, 255, 4);
        Check.tell(x, ALWAYS + "class c tasks 1 margin 10;");
        Check.row(x, 0, 0, 0, 1, 1, 2);
    }

    private static void changesNothing() {
        Check.holds("Terms", "A text with a FAULT changes nothing; else it is a FACT.");
        String[] texts = {"", "award", "award d from 0; class c tasks 1 margin 99; ?", "vary a from 0; class c tasks 2"
                + " margin 99; margin", "award a from 0; binds if 0 == 0;", "vary d from 0; strike c;",
            "award d from 140; binds if 0 == 0;", "vary a from 0; strike c; over a;",
            "vary a from 0; class c tasks 1 margin 99; load l (((((((1"};
        int[] due = {1, 1, 1, 1, 3, 4, 5, 5, 2};
        for (int i = 0; i < texts.length; i++) {
            String text = texts[i];
            int number = due[i];
            Twins.unchanged("the text '" + text + "'", c -> {
                told(c);
                Check.due("a fault ahead of it", Check.read(c, text), number);
            }, c -> Check.due("the fault again", Check.read(c, text), number));
            WageCourt x = new WageCourt();
            told(x);
            Check.due("the fault", Check.read(x, text), number);
            Check.due("facts", x.count(3), 2);
            Check.due("texts", x.count(4), 1);
            Check.due("names", x.count(5), 2);
            Check.due("bound", x.bound(0, 0, 0, 2), 0);
            Check.due("worth", x.worth(0, 0, 0, 2), 1000);
            Check.due("classed", x.classed(0, 0, 2, 2), -1);
            Check.due("the next fact", Check.tell(x, "award d from 0;"), 2);
            Check.due("names", x.count(5), 3);
        }
        faultsLeaveNothing();
        WageCourt x = withNames(60);
        int facts = x.count(3);
        Check.fault(x, "vary va from 0; strike vb; strike b;", 6, 34);
        Check.due("facts behind FULL", x.count(3), facts);
        Check.due("names behind FULL", x.count(5), 60);
        Check.due("named behind FULL", Check.named(x, "b"), -1);
    }

    /** Each text breaks off in the midst of something; the one that is read next is read as on a new object. */
    private static void faultsLeaveNothing() {
        String[] broken = {"award z from 0; binds if not ?", "award z from 0; binds if not not ticket ?",
            "award z from 0; load l ((((((1 ?", "award z from 0; binds if 1 == 1 and not (1 ?",
            "award z from 0; binds if 0 == 1 or 7 * ?", "award z from 0; load l 1 bars m ?",
            "award z from 0; class c tasks 1, 2 follows d e ?", "award z from 0; binds if 1 == ?",
            "award z from 0; load l (((((((1", "award z from 0; round ?", "award z from 140; binds if ticket 8; strike c;"};
        for (String text : broken) {
            WageCourt x = new WageCourt();
            x.town();
            x.firm(0, 0);
            x.person(0, 0, 0);
            Check.due("a fault", Check.read(x, text) > 0, true);
            Check.tell(x, "award a from 0; binds if 0 == 0; class c tasks 3 margin ((((((1)))))) + 2 * 5; extra e 4 if not 0 =="
                    + " 1; load l 1;");
            Check.row(x, 0, 0, 0, 3, 2, 1);
            Check.due("bound behind '" + text + "'", x.bound(0, 0, 0, 2), 0);
            Check.due("margin behind it", x.margin(0, 1, 0, 0, 2), 11);
            Check.due("worth behind it", x.worth(0, 0, 0, 2), 11 * 101 + 800);
            Check.due("class of another task behind it", x.classed(0, 0, 1, 2), -1);
            Check.due("names behind it", x.count(5), 4);
        }
    }

    /** Whether the COND holds for a PERSON of YEARS 4 with all TICKETS. */
    private static boolean holds(String cond) {
        WageCourt x = new WageCourt();
        x.town();
        x.firm(0, 0);
        x.person(0, 255, 4);
        Check.tell(x, "award a from 0; binds if " + cond + ";");
        Check.row(x, 0, 0, 0, 1);
        return x.bound(0, 0, 0, 2) == 0;
    }

    private static int margin(String sum) {
        WageCourt x = new WageCourt();
        x.town();
        x.firm(0, 0);
        Check.tell(x, "award a from 0; class c tasks 1 margin " + sum + ";");
        return x.margin(0, 1, 0, 0, 1);
    }

    /** An E that is that number, of INTS of 4 digits. */
    private static String written(int v) {
        long size = Math.abs((long) v);
        String text = "((" + size / 5000 / 5000 + " * 5000 + " + size / 5000 % 5000 + ") * 5000 + " + size % 5000 + ")";
        return v < 0 ? "(0 - " + text + ")" : text;
    }

    private static void wraps() {
        Check.holds("Terms", "Ints of 32 bits that wrap;");
        int[] edges = {0, 1, -1, 5, 46340, 46341, 65535, 65536, Integer.MAX_VALUE, Integer.MAX_VALUE - 1,
            Integer.MIN_VALUE, Integer.MIN_VALUE + 1, 0x40000000, 0x3fffffff, -0x40000000, -0x40000001};
        for (int a : edges) {
            Check.due("the number " + a, holds(written(a) + " < 0"), a < 0);
            for (int b : edges) {
                String two = written(a) + " + " + written(b);
                Check.due(two, holds(two + " == " + written(a + b)), true);
                two = written(a) + " - " + written(b);
                Check.due(two, holds(two + " == " + written(a - b)), true);
                two = written(a) + " * " + written(b);
                Check.due(two, holds(two + " == " + written(a * b)), true);
                two = written(a) + " / " + written(b);
                Check.due(two, holds(two + " == " + written(b == 0 ? 0 : a / b)), b != 0);
                Check.due(a + " < " + b, holds(written(a) + " < " + written(b)), a < b);
                Check.due(a + " <= " + b, holds(written(a) + " <= " + written(b)), a <= b);
                Check.due(a + " == " + b, holds(written(a) + " == " + written(b)), a == b);
                Check.due(a + " != " + b, holds(written(a) + " != " + written(b)), a != b);
            }
        }
        Check.due("9999 three times", holds("9999 * 9999 * 9999 == " + written(9999 * 9999 * 9999)), true);
        Check.due("least number by -1", holds(written(Integer.MIN_VALUE) + " / (0 - 1) < 0"), true);
        Check.due("a sum that wraps twice", margin("8192 * 8192 * 32 + 8192 * 8192 * 32 + 7"), 7);
        Check.due("a difference that wraps twice", margin("0 - 8192 * 8192 * 32 - 8192 * 8192 * 32 - 7"), -7);
    }

    private static void rounds() {
        Check.holds("Terms", "/ is rounded towards 0.");
        String[] sums = {"0 / 1", "1 / 2", "(0 - 1) / 2", "1 / (0 - 2)", "(0 - 1) / (0 - 2)", "2 / 2", "3 / 2", "(0 - 3) / 2",
            "3 / (0 - 2)", "(0 - 3) / (0 - 2)", "7 / 4", "8 / 4", "(0 - 7) / 4", "(0 - 8) / 4", "(0 - 9) / 4", "9999 / 9998",
            "9998 / 9999", "0 / 9999", "7 / 2 / 2", "7 / (2 / 2)", "7 / 2 * 2", "2 * 7 / 4", "1 / 3 + 1 / 3 + 1 / 3"};
        int[] due = {0, 0, 0, 0, 0, 1, 1, -1, -1, 1, 1, 2, -1, -2, -2, 1, 0, 0, 1, 7, 6, 3, 0};
        for (int i = 0; i < sums.length; i++) {
            Check.due(sums[i], margin(sums[i]), due[i]);
        }
    }

    private static void dividedByZero() {
        Check.holds("Terms", "An E that is not in brackets, in which there is a division by 0, is 0; a LIT with such an E"
                + " doesn't hold (its not does).");
        String[] zero = {"7 / 0", "7 / 0 + 5", "5 + 7 / 0", "5 + (7 / 0)", "5 - 3 * (2 + (1 / (1 - 1)))", "(7 / 0) * 0 + 9",
            "0 / 0 + 9", "9 + 1 / (2 / 3)", "9 + 1 / (years)", "9 + 1 / task", "((((((1 / 0)))))) + 4", "1 / (1 / 0) + 4",
            "8 + 1 / (8192 * 8192 * 64)"};
        for (String sum : zero) {
            Check.due("margin of " + sum, margin(sum), 0);
        }
        Check.due("margin of 0 / 7 + 5", margin("0 / 7 + 5"), 5);
        Check.due("margin of 7 / (1 - 2) + 5", margin("7 / (1 - 2) + 5"), -2);
        String[] compared = {"1 / 0 == 0", "0 == 1 / 0", "1 / 0 == 1 / 0", "1 / 0 != 1", "1 / 0 <= 0", "0 <= 1 / 0", "1 / 0 < 1",
            "0 - 1 < 1 / 0", "(1 / 0) * 0 == 0", "5 == 5 + 0 * (1 / 0)", "0 / 0 == 0", "1 / 0 != 1 / 0"};
        for (String lit : compared) {
            Check.due(lit, holds(lit), false);
            Check.due("not " + lit, holds("not " + lit), true);
            Check.due("not not " + lit, holds("not not " + lit), false);
            Check.due(lit + " or 0 == 0", holds(lit + " or 0 == 0"), true);
            Check.due("0 == 0 or " + lit, holds("0 == 0 or " + lit), true);
            Check.due(lit + " and 0 == 0", holds(lit + " and 0 == 0"), false);
            Check.due("0 == 0 and " + lit, holds("0 == 0 and " + lit), false);
            Check.due("not " + lit + " and 0 == 0", holds("not " + lit + " and 0 == 0"), true);
            Check.due("ticket 7 and not " + lit, holds("ticket 7 and not " + lit), true);
        }
        loadsByZero();
    }

    /** A load's and an extra's E, a tie's, and a COND, with a division by 0 in them. */
    private static void loadsByZero() {
        WageCourt x = new WageCourt();
        x.town();
        x.firm(0, 0);
        x.person(0, 0, 0);
        Check.tell(x, ALWAYS + "class c tasks 1 follows a d plus 50 + 1 / 0; class d tasks 2 margin 30; load l 50 + 1 / 0;"
                + "extra e 5 + 1 / 0; extra f 4 if 1 / years == 1 / years; extra g 3 if not 1 / years == 1;"
                + "load m 10 / years + 9;");
        Check.row(x, 0, 0, 0, 1);
        Check.due("margin of a tie with an E by 0", x.margin(0, 1, 0, 0, 2), 30);
        Check.due("worth", x.worth(0, 0, 0, 2), 30 * 100 + 200 * 3);
        String[] counted = {"l", "e", "g", "m"};
        for (int k = 0; k < 4; k++) {
            Check.due("counted " + k, x.counted(0, 0, 0, k, 2), Check.named(x, counted[k]));
        }
        Check.due("counted behind them", x.counted(0, 0, 0, 4, 2), -1);
        Check.tell(x, "award b from 0; class c tasks 1 margin 7;");
        x.log(2, 1, 0);
        x.answer(2, 1, 3);
        int fact = Check.tell(x, "vary b from 0; margin c is 2 / 0 + 9; margin c is 9;");
        Check.due("fate of a margin by 0, which is 0", x.fate(fact, 0, 0, 0, fact + 1), 0);
        Check.due("margin that is 0", x.margin(2, 1, 0, 0, fact + 1), 0);
    }
}
