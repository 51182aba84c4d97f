import java.util.ArrayList;
import java.util.List;

/** Boundary cases of II (Terms), and of promises 4 and 5: read, place. */
final class EdgeTextTest {
    public static void main(String[] args) {
        readAnswers();
        readWithoutRoom();
        places();
        bytes();
        blanks();
        names();
        ints();
        signs();
        noToken();
        words();
        heads();
        items();
        formulas();
        numbersOfNames();
        firstFault();
        syntax();
        neighbours();
        Check.end();
    }

    /** A court with the award aa. */
    private static WageCourt court() {
        WageCourt x = new WageCourt();
        Check.tell(x, "award aa from 0;");
        return x;
    }

    private static void fine(String text) {
        Check.tell(court(), text);
    }

    private static void fault(String text, int number, int place) {
        Check.fault(court(), text, number, place);
    }

    /** The last TOKEN, or what is none, is the one that no text goes on with. */
    private static void wrongLast(String text) {
        fault(text, 1, text.lastIndexOf(' ') + 1);
    }

    private static void readAnswers() {
        Check.holds("Promise 4", "The tape, which is empty then, is a TEXT: 0 (it is the next FACT), or the number of its"
                + " FAULT.");
        String[] faulty = {"", "award b", "award b from 0; load l (((((((1)))))));", "award aa from 0;", "vary b from 0;",
            "award b from 140;"};
        int[] due = {1, 1, 2, 3, 4, 5};
        WageCourt x = court();
        for (int i = 0; i < faulty.length; i++) {
            Check.due("read of '" + faulty[i] + "'", Check.read(x, faulty[i]), due[i]);
            Check.due("bytes behind it", x.count(6), 0);
            Check.due("back(1) behind it", x.back(1), -1);
            Check.due("facts behind it", x.count(3), 1);
            Check.due("texts behind it", x.count(4), 1);
            Check.due("kind of a next fact", x.kind(1), -1);
        }
        Check.due("read of a text", Check.read(x, "award b from 0;"), 0);
        Check.due("bytes behind it", x.count(6), 0);
        Check.due("facts behind it", x.count(3), 2);
        Check.due("kind of the next fact", x.kind(1), 0);
        Check.due("read of the empty tape", x.read(), 1);
        x.town();
        x.firm(0, 0);
        x.wet(0, 0, 0);
        Check.due("read of a text", Check.read(x, "vary b from 0;"), 0);
        Check.due("kind of the next fact", x.kind(3), 1);
    }

    private static void oneFirm(WageCourt x) {
        x.town();
        x.firm(0, 0);
    }

    private static void readWithoutRoom() {
        Check.holds("Promise 4", "-2, and the tape stays: 160 FACTS, 24 TEXTS are there.");
        WageCourt x = new WageCourt();
        oneFirm(x);
        Check.fillFacts(x, 159);
        Check.due("read with 159 facts", Check.read(x, "award a from 0;"), 0);
        Check.due("read with 160 facts", Check.read(x, "award b from 0;"), -2);
        Check.due("bytes behind it", x.count(6), 15);
        Check.due("back behind it", x.back(14), 1);
        Check.due("named behind it", x.named(), 0);
        Check.due("read of a fault with 160 facts", Check.read(x, "?"), -2);
        Check.due("bytes behind it", x.count(6), 1);
        x = new WageCourt();
        Check.tell(x, "award a from 0;");
        Check.fillTexts(x, 22, "vary a from 0;");
        Check.due("read of a fault with 23 texts", Check.read(x, "vary a from 0"), 1);
        Check.due("read with 23 texts", Check.read(x, "vary a from 0;"), 0);
        Check.due("read with 24 texts", Check.read(x, "vary a from 0;"), -2);
        Check.due("bytes behind it", x.count(6), 14);
        Check.due("read again", x.read(), -2);
        Check.due("texts", x.count(4), 24);
        Check.due("facts", x.count(3), 24);
        Check.due("a stay yet", x.stay(23, 0, 1), 24);
        Twins.refused("read with 160 facts", c -> {
            oneFirm(c);
            Check.tell(c, "award a from 0;");
            Check.fillFacts(c, 160);
            Check.tape(c, "award b from 0;");
        }, -2, WageCourt::read);
        Twins.refused("read with 24 texts", c -> {
            Check.tell(c, "award a from 0;");
            Check.fillTexts(c, 23, "vary a from 0;");
            Check.tape(c, "a ");
        }, -2, WageCourt::read);
    }

    private static void places() {
        Check.holds("Promise 5", "The byte of the latest read()'s FAULT (that was not -2); NONE without.");
        WageCourt x = new WageCourt();
        Check.due("place without a read", x.place(), -1);
        Check.due("named", Check.named(x, "?"), -1);
        Check.due("place behind named", x.place(), -1);
        Check.fault(x, "?", 1, 0);
        Check.fault(x, " ?", 1, 1);
        Check.tell(x, "award a from 0;");
        Check.due("place behind a text without", x.place(), -1);
        Check.fault(x, "award a from 0;", 3, 6);
        Check.due("place again", x.place(), 6);
        x.feed(0, 0, 0, 0, 0);
        x.back(20);
        Check.due("place behind feed and back", x.place(), 6);
        Check.fillTexts(x, 22, "vary a from 0;");
        Check.fault(x, "vary b from 0;", 4, 5);
        Check.tape(x, "vary a from 0;");
        x.back(0);
        Check.due("read, the 24th text", x.read(), 0);
        Check.due("place behind it", x.place(), -1);
        Check.due("read that is -2", Check.read(x, "?"), -2);
        Check.due("place behind it", x.place(), -1);
        WageCourt y = new WageCourt();
        oneFirm(y);
        Check.fault(y, "award a from 0; x", 1, 16);
        Check.fillFacts(y, 160);
        Check.due("read that is -2", Check.read(y, "??"), -2);
        Check.due("place of the read ahead of it", y.place(), 16);
    }

    private static void bytes() {
        Check.holds("Terms", "A TEXT has 2,000 bytes at most.");
        String text = "award a from 0;";
        int[] lengths = {15, 16, 1998, 1999, 2000};
        for (int length : lengths) {
            fine(text + " ".repeat(length - 15));
            fine(" ".repeat(length - 15) + text);
            fault(" ".repeat(length - 14) + text.substring(0, 14), 1, length);
            fault("award a from 0" + " ".repeat(length - 14), 1, length);
        }
        fault(text + " ".repeat(1984) + "?", 1, 1999);
        fault(text + " ".repeat(1979) + "load l", 1, 2000);
        fine(text + " ".repeat(1974) + "round 9;" + "   ");
    }

    private static void blanks() {
        Check.holds("Terms", "TOKENS, the longest that can be, with blanks (9, 10, 13, 32) between or not:");
        String spread = "award b from 0 ; load c 1 + 2 if 3 == 4 bars d ;";
        for (char blank : new char[] {9, 10, 13, 32}) {
            fine(spread.replace(' ', blank));
            fine(spread.replace(" ", "" + blank + blank + blank));
            fine(blank + spread + blank);
        }
        fine("award b from0;load c1+2if3==4bars d;class e tasks1,2margin(1)*(2);");
        fine("award b from 0;load c(1)if(1)<=2and not ticket7bars d;");
        char[] beside = {0, 8, 11, 12, 14, 31, 33, 127, 160};
        for (char c : beside) {
            fault(spread.replaceFirst(" ", "" + c), 1, 5);
            fault(spread + c, 1, spread.length());
            fault(c + spread, 1, 0);
        }
        fault("awardb from 0;", 1, 0);
        fault("award bfrom 0;", 1, 12);
        fault("award b fro m 0;", 1, 8);
        fault("award b from 0; load c 1 if 2 < = 3;", 1, 32);
        fault("award b from 0; load c 1 if 2 = = 3;", 1, 30);
        fault("award b from 0; load c 1 if 2 ! = 3;", 1, 30);
        fault("award b from 1 3;", 1, 15);
        fault("award b from 0; load c 1 if 2<==3;", 1, 31);
        fault("award b from 0; load c 1 if 2===3;", 1, 31);
    }

    private static void names() {
        Check.holds("Terms", "NAMES (letters a .. z, 8 at most, none of the words in quotes),");
        String[] fine = {"a", "z", "az", "abcdefg", "abcdefgh", "zzzzzzzz", "firms", "iff", "orr", "nott", "wages",
            "tickets", "fro", "highestt"};
        for (String name : fine) {
            fine("award " + name + " from 0; load " + name + " 1 bars " + name + ";");
        }
        String[] not = {"abcdefghi", "zzzzzzzzz", "abcdefghijklmnop", "aaaaaaaaaaaaaaaaaaaaaaaaaaaaaaaaaaaaaaaaaaaaa",
            "A", "Z", "`", "{", "@", "[", "_", "\u00e9", "1", "1a"};
        for (String name : not) {
            fault("award " + name + " from 0;", 1, 6);
            fault("award b from 0; over " + name + ";", 1, 21);
        }
        fault("award bA from 0;", 1, 7);
        fault("award b1 from 0;", 1, 7);
        fault("award b_c from 0;", 1, 7);
    }

    private static void ints() {
        Check.holds("Terms", "INTS (1 to 4 digits),");
        String[] fine = {"0", "9", "00", "01", "139", "000", "0139", "0000"};
        for (String number : fine) {
            fine("award b from " + number + ";");
        }
        String[] not = {"00000", "00139", "12345", "99999", "0000000000000000000000", "4294967296", "+1", "-1", "a", ".5",
            ":", "x0"};
        for (String number : not) {
            fault("award b from " + number + ";", 1, 13);
            fault("award b from 0; class c tasks 1, " + number + " margin 1;", 1, 33);
        }
        fault("award b from 0; load c 9999 + 10000;", 1, 30);
        fine("award b from 0; load c 9999 + 0000;");
        fault("award b from 0; load c 1 2;", 1, 25);
        fault("award b from 0/;", 1, 14);
    }

    private static void signs() {
        Check.holds("Terms", "SIGNS ; , + - * / == != < <= ( ) .");
        String[] between = {"+", "-", "*", "/"};
        for (String sign : between) {
            fine("award b from 0; load c 1" + sign + "2;");
            fine("award b from 0; load c (1 " + sign + " 2);");
        }
        String[] compared = {"==", "!=", "<", "<="};
        for (String sign : compared) {
            fine("award b from 0; binds if 1" + sign + "2;");
            fine("award b from 0; binds if (1) " + sign + " (2);");
        }
        fine("award b from 0; class c tasks 1,2 , 3 margin 1;");
        String[] none = {"=", "!", ">", ">=", "=<", "<>", "&", "|", "%", "^", "~", ".", ":", "[", "]", "{", "}", "\\",
            "'", "\"", "#", "$", "?", "@", "`", "_"};
        for (String sign : none) {
            int at = sign.equals("<>") ? 28 : 27;
            fault("award b from 0; binds if 1 " + sign + " 2;", 1, at);
        }
        fault("award b from 0, ;", 1, 14);
        fault("award b from 0. ;", 1, 14);
    }

    /** Of all 256 bytes: which go on with a NAME, which are blanks behind it, which end a TEXT's TOKENS. */
    private static void noToken() {
        Check.holds("Terms", "A longer one, all else, is no TOKEN.");
        for (int b = 0; b < 256; b++) {
            char c = (char) b;
            boolean letter = c >= 'a' && c <= 'z';
            boolean digit = c >= '0' && c <= '9';
            boolean blank = c == 9 || c == 10 || c == 13 || c == 32;
            String name = "award b" + c + " from 0;";
            String sum = "award b from 0; load c 1" + c + "2;";
            if (letter || blank) {
                fine(name);
            } else {
                fault(name, 1, 7);
            }
            if (digit || c == '+' || c == '-' || c == '*' || c == '/') {
                fine(sum);
            } else if (blank) {
                fault(sum, 1, 25);
            } else if (c == ';') {
                fault(sum, 1, 25);
            } else {
                fault(sum, 1, 24);
            }
        }
        fault("award abcdefghi from 0;", 1, 6);
        fault("award b from 10000;", 1, 13);
        fault("abcdefghi", 1, 0);
        fault("12345", 1, 0);
        fault("awardawardaward b from 0;", 1, 0);
    }

    private static void words() {
        Check.holds("Terms", "('firm' is a word too, 'who' the FIRM's number.)");
        fault("award firm from 0;", 1, 6);
        fault("award b from 0; over firm;", 1, 21);
        fine("award firma from 0;");
        WageCourt x = court();
        for (int i = 0; i < 8; i++) {
            x.town();
            x.firm(0, 3);
        }
        Check.tell(x, "award b from 0; class c tasks 1 margin who;");
        for (int firm = 0; firm < 8; firm++) {
            Check.due("who of firm " + firm, x.margin(1, 2, 0, firm, 2), firm);
        }
        String all = "award vary order agree firm from binds if over class tasks margin follows plus choose each most"
                + " highest load extra bars round strike is or and not ticket least years trade town who task weekday"
                + " half worked week wet rate";
        for (String word : all.split(" ")) {
            fault("award " + word + " from 0;", 1, 6);
            fault("award b from 0; load c 1 bars " + word + ";", 1, 30);
            String longer = word.length() < 8 ? word + "x" : "x" + word.substring(1);
            fine("award " + longer + " from 0;");
            fine("award " + word.substring(0, 1) + " from 0;");
        }
    }

    private static void heads() {
        Check.holds("Terms", "text: ('award' NAME | 'vary' NAME | 'order' NAME 'firm' INT | 'agree' NAME 'firm' INT)"
                + " 'from' INT ';' {ITEM}.");
        String[] heads = {"award b from 0;", "vary aa from 0;", "order aa firm 0 from 0;", "agree aa firm 0 from 0;"};
        for (int kind = 0; kind < 4; kind++) {
            WageCourt x = court();
            Check.tell(x, heads[kind]);
            Check.due("kind of a text without items", x.kind(1), kind);
            fine(heads[kind] + "round 1;");
            fine(heads[kind] + "round 1; round 2; round 3;");
            fault(heads[kind] + heads[kind], 1, heads[kind].length());
        }
        String[] wrong = {"class", "aa", "award award", "award b firm", "vary aa firm", "order aa from", "agree aa from",
            "order firm", "order aa firm from", "order aa firm 0 ;", "agree aa firm 0 0", "award b 0", "award b from ;",
            "award b from 0 0", "award b from 0 ,", "vary aa from vary", "; award"};
        for (String text : wrong) {
            wrongLast(text.equals("; award") ? ";" : text);
        }
    }

    private static void items() {
        Check.holds("Terms", "ITEM: 'binds' 'if' COND ';' | 'over' NAME ';' | 'class' NAME 'tasks' INT {',' INT}"
                + " ('margin' E | 'follows' NAME NAME 'plus' E) ';' | 'choose' ('each' | 'most' | 'highest') ';' |"
                + " ('load' | 'extra') NAME E ['if' COND] {'bars' NAME} ';' | 'round' INT ';' | 'strike' NAME ';' |"
                + " 'margin' NAME 'is' E ';'.");
        String[] own = {"binds if 1 == 1;", "over b;", "class c tasks 1 margin 1;", "class c tasks 1,2 margin 1;",
            "class c tasks 1 follows b d plus 1;", "choose each;", "choose most;", "choose highest;", "load c 1;",
            "extra c 1;", "load c 1 if 1 == 1;", "extra c 1 bars d;", "load c 1 bars d bars e;",
            "extra c 1 if 1 == 1 bars d bars e;", "round 1;"};
        for (String item : own) {
            fine("award b from 0;" + item);
            fine("agree aa firm 0 from 0;" + item + item);
            fault("award b from 0;" + item.substring(0, item.length() - 1), 1, 14 + item.length());
            fault("award b from 0;" + item + ";", 1, 15 + item.length());
        }
        String[] changes = {"strike c;", "margin c is 1;", "class c tasks 1 margin 1;", "choose most;", "load c 1;",
            "extra c 1;", "round 1;"};
        for (String item : changes) {
            fine("vary aa from 0;" + item);
            fine("order aa firm 0 from 0;" + item + item);
            fault("vary aa from 0;" + item.substring(0, item.length() - 1), 1, 14 + item.length());
        }
        String[] wrong = {"binds 1", "binds if ;", "over ;", "over b c", "class tasks", "class c margin",
            "class c tasks ;", "class c tasks margin", "class c tasks 1 2", "class c tasks 1 ;", "class c tasks 1, ,",
            "class c tasks 1, margin", "class c tasks 1 follows b plus", "class c tasks 1 follows b c ;",
            "class c tasks 1 follows b c 1", "class c tasks 1 margin ;", "class c tasks 1 margin 1 if",
            "class c tasks 1 margin 1 bars", "choose ;", "choose b", "choose each most", "load ;", "load c ;", "load c if",
            "load c bars", "load c 1 if ;", "load c 1 if 1 == 1 if", "load c 1 bars ;", "load c 1 bars d if",
            "extra c 1 bars d e", "extra c 1 d", "round ;", "round b", "round 1 1", "strike ;", "strike 1", "strike b c",
            "margin 1", "margin is", "margin c 1", "margin c is ;", "margin c is 1 1", "firm", "from", "tasks", "c", "1",
            ";", "if", "("};
        for (String item : wrong) {
            wrongLast("award b from 0; " + item);
        }
    }

    private static void formulas() {
        Check.holds("Terms", "COND: ALL {'or' ALL}. ALL: LIT {'and' LIT}. LIT: 'not' LIT | 'ticket' INT | E ('==' | '!='"
                + " | '<' | '<=') E.");
        String[] conds = {"1 == 1", "ticket 1", "not ticket 1", "not not not 1 == 1", "1 == 1 or 1 == 1 or ticket 1",
            "1 == 1 and ticket 1 and not 1 == 1", "1 == 1 or ticket 1 and ticket 2 or not ticket 3"};
        for (String cond : conds) {
            fine("award b from 0; binds if " + cond + ";");
            fine("award b from 0; load c 1 if " + cond + " bars d;");
            int end = 25 + cond.length();
            fault("award b from 0; binds if " + cond + " or;", 1, end + 3);
            fault("award b from 0; binds if " + cond + " and;", 1, end + 4);
            fault("award b from 0; binds if " + cond + " == 1;", 1, end + 1);
            fault("award b from 0; binds if " + cond + " not 1 == 1;", 1, end + 1);
            fault("award b from 0; binds if (" + cond + ");", 1, cond.startsWith("1") ? 28 : 26);
        }
        String[] wrongConds = {"1 ;", "1 or", "not ;", "ticket ;", "ticket least", "ticket 1 +", "ticket ( ", "1 == not",
            "1 == ticket", "1 == 1 == ", "1 < 2 < ", "least and", "1 == 1 or or", "1 == 1 and and", "or", "bars"};
        for (String cond : wrongConds) {
            wrongLast("award b from 0; binds if " + cond.trim());
        }
        Check.holds("Terms", "E: PART {('+' | '-') PART}. PART: UNIT {('*' | '/') UNIT}. UNIT: INT | VAR | '(' E ')'."
                + " VAR: 'least' | 'years' | 'trade' | 'town' | 'who' | 'task' | 'weekday' | 'half' | 'worked' | 'week' |"
                + " 'wet' | 'rate'.");
        String[] vars = {"least", "years", "trade", "town", "who", "task", "weekday", "half", "worked", "week", "wet",
            "rate"};
        for (String v : vars) {
            fine("award b from 0; class c tasks 1 margin " + v + "; load d " + v + " if " + v + " == " + v + ";");
            fine("vary aa from 0; margin c is " + v + ";");
        }
        String[] sums = {"1", "least", "(1)", "1 + 1 - 1 + 1", "1 * 1 / 1 * 1", "(1 + 1) * (1 - 1)", "((1))", "1 + (2 * 3)"};
        for (String sum : sums) {
            fine("award b from 0; load c " + sum + ";");
            int end = 23 + sum.length();
            fault("award b from 0; load c " + sum + " +;", 1, end + 2);
            fault("award b from 0; load c " + sum + " /;", 1, end + 2);
            fault("award b from 0; load c " + sum + ");", 1, end);
            fault("award b from 0; load c (" + sum + ";", 1, end + 1);
            fault("award b from 0; load c " + sum + " least;", 1, end + 1);
            fault("award b from 0; load c " + sum + " == 1;", 1, end + 1);
        }
        String[] wrongSums = {"+", "-", "- 1", "* 1", ")", "( )", "1 + +", "1 * /", "1 - -", "( + ", "( 1 ==", "( not", "not",
            "ticket", "d", "1 (", "( 1 ) (", "1 least", "(( 1 ) ;"};
        for (String sum : wrongSums) {
            String text = sum.equals("- 1") || sum.equals("* 1") ? sum.substring(0, 1) : sum.trim();
            wrongLast("award b from 0; load c " + text);
        }
    }

    private static void numbersOfNames() {
        Check.holds("Terms", "A NAME gets a number when it comes first in a TEXT without FAULT, from 0 on.");
        WageCourt x = new WageCourt();
        Check.fault(x, "award z from 0; over y; over x", 1, 30);
        Check.fault(x, "vary z from 0; strike y;", 4, 5);
        Check.due("names behind faults", x.count(5), 0);
        Check.tell(x, "award q from 0; over p; over q; class o tasks 1 follows n m plus 1; load l 1 bars k bars q bars"
                + " j; extra o 1;");
        String[] due = {"q", "p", "o", "n", "m", "l", "k", "j"};
        Check.due("names", x.count(5), due.length);
        for (int i = 0; i < due.length; i++) {
            Check.due("number of " + due[i], Check.named(x, due[i]), i);
        }
        Check.fault(x, "vary q from 0; strike i; strike h; x", 1, 35);
        Check.tell(x, "vary q from 0; strike h; margin i is 1; strike p; class g tasks 1 follows q p plus 1;");
        Check.due("names", x.count(5), 11);
        Check.due("number of h", Check.named(x, "h"), 8);
        Check.due("number of i", Check.named(x, "i"), 9);
        Check.due("number of g", Check.named(x, "g"), 10);
        Check.due("number of q still", Check.named(x, "q"), 0);
        Check.tell(x, "award p from 0;");
        Check.due("names, no new one", x.count(5), 11);
        Check.due("named gives no number", Check.named(x, "f"), -1);
        Check.due("names behind named", x.count(5), 11);
    }

    private static void firstFault() {
        Check.holds("Terms", "FAULTS, the first by its place (a byte; the text's end: its length), of one place the"
                + " least:");
        fault("", 1, 0);
        fault(" ", 1, 1);
        fault("?", 1, 0);
        fault("award", 1, 5);
        fault("award ", 1, 6);
        fault("award b from 0; load c 1", 1, 24);
        fault("award b from 0; load c 1\r\n", 1, 26);
        fault("award b from 0 ? ?", 1, 15);
        fault("award b from 0; load c ((((((( ?", 2, 29);
        fault("award b from 0; ? load c (((((((1", 1, 16);
        fault("award b from 0; load c (((((( ?", 1, 30);
        String thirty = "award b from 0;" + "round 1;".repeat(30);
        fault(thirty + "?", 1, thirty.length());
        fault(thirty + "c", 1, thirty.length());
        fault(thirty + "load (", 2, thirty.length());
        String eight = "award b from 0; class c tasks 0,1,2,3,4,5,6,7,";
        fault(eight, 1, eight.length());
        fault(eight + "c", 1, eight.length());
        fault(eight + "8", 2, eight.length());
        String four = "award b from 0; load c 1 bars d bars e bars f bars g bars ";
        fault(four, 1, four.length());
        fault(four + "8", 1, four.length());
        fault(four + "h", 2, four.length());
    }

    private static void syntax() {
        Check.holds("Terms", "1 SYNTAX: a TOKEN, or what is none, with which no text goes on.");
        String[] whole = {"award b from 0 ;", "vary aa from 0 ; strike c ;",
            "order aa firm 0 from 0 ; margin c is ( 1 ) ;",
            "agree aa firm 0 from 0 ; class c tasks 1 , 2 follows b d plus 1 - 2 ;",
            "award b from 0 ; binds if not ticket 1 and 1 == 2 or 3 <= 4 ; over c ; choose most ; round 7 ;",
            "award b from 0 ; extra c 1 * 2 / ( 3 + least ) if 1 != 2 or 3 < 4 bars d bars e ;"};
        for (String text : whole) {
            String told = "";
            fault("?" + text, 1, 0);
            for (String token : text.split(" ")) {
                told = told + token;
                if (token.equals(";")) {
                    fine(told);
                } else {
                    fault(told, 1, told.length());
                    fault(told + " ", 1, told.length() + 1);
                }
                told = told + " ";
                fault(told + "?", 1, told.length());
                fault(told + "award", 1, told.length());
                fault(told + "abcdefghi;", 1, told.length());
                fault(told + "00000;", 1, told.length());
            }
        }
    }

    /** Each TOKEN of a whole text in turn is another one, is away, or has another one ahead. */
    private static void neighbours() {
        String[] whole = {"award b from 0 ; class c tasks 1 , 2 margin 1 ;", "vary aa from 0 ; margin c is ( 1 ) ;",
            "order aa firm 0 from 0 ; strike c ;", "agree aa firm 0 from 0 ; class c tasks 1 follows b d plus 1 ;",
            "award b from 0 ; binds if not ticket 1 and 1 == 2 ;", "award b from 0 ; over c ; choose most ; round 7 ;",
            "award b from 0 ; extra c 1 / 2 if 1 < 2 bars d ;"};
        String[] other = {"award", "vary", "order", "agree", "firm", "from", "binds", "if", "over", "class", "tasks",
            "margin", "follows", "plus", "choose", "each", "most", "highest", "load", "extra", "bars", "round", "strike",
            "is", "or", "and", "not", "ticket", "least", "rate", "b", "aa", "0", "8", "16", "140", "241", ";", ",", "+", "-",
            "*", "/", "==", "!=", "<", "<=", "(", ")", "=", "?", "abcdefghi", "12345", ""};
        for (String text : whole) {
            String[] tokens = text.split(" ");
            for (int i = 0; i <= tokens.length; i++) {
                for (String token : other) {
                    List<String> changed = new ArrayList<>(List.of(tokens));
                    changed.add(i, token);
                    likeTheOracle(String.join(" ", changed));
                    if (i < tokens.length) {
                        changed.remove(i + 1);
                        likeTheOracle(String.join(" ", changed));
                    }
                }
            }
        }
    }

    private static void likeTheOracle(String text) {
        WageCourt x = court();
        Oracle o = new Oracle();
        fed(o, "award aa from 0;");
        o.read();
        fed(o, text);
        Check.due("read of '" + text + "'", Check.read(x, text), o.read());
        Check.due("place in '" + text + "'", x.place(), o.place());
        Check.due("names behind '" + text + "'", x.count(5), o.count(5));
        Check.due("facts behind '" + text + "'", x.count(3), o.count(3));
    }

    private static void fed(Oracle o, String text) {
        for (int at = 0; at < text.length(); at += 20) {
            int[] five = new int[5];
            for (int i = 0; i < 20; i++) {
                five[i / 4] = five[i / 4] << 8 | (at + i < text.length() ? text.charAt(at + i) : 32);
            }
            o.feed(five);
        }
        o.back((20 - text.length() % 20) % 20);
    }
}
