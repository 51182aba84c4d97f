/** Promises 4 and 5: read and place; TOKENS, the grammar and the FAULTS. */
final class TextTest {
    public static void main(String[] args) {
        places();
        tokens();
        words();
        grammar();
        syntaxOfItems();
        syntaxOfFormulas();
        room();
        roomOfTokens();
        late();
        wrong();
        full();
        order();
        noRoomForFacts();
        noRoomForTexts();
        Check.end();
    }

    private static void places() {
        WageCourt x = new WageCourt();
        Check.due("place without a read", x.place(), -1);
        Check.fault(x, "", 1, 0);
        Check.fault(x, "    ", 1, 4);
        Check.fault(x, "award", 1, 5);
        Check.fault(x, "award   ", 1, 8);
        Check.fault(x, "award a from 0", 1, 14);
        Check.due("bytes after a fault", x.count(6), 0);
        Check.tell(x, "award a from 0;");
        Check.due("place without a fault", x.place(), -1);
        Check.due("bytes after a text", x.count(6), 0);
        Check.due("facts", x.count(3), 1);
    }

    private static void tokens() {
        WageCourt x = new WageCourt();
        left(x, "award a from 0; binds if 1 <=", 1);
        left(x, "award a from 0; binds if 1 <=", 0);
        left(x, "award a from 0; binds if 1 ==", 0);
        left(x, "award a from 13", 1);
        left(x, "award ab", 1);
        Check.fault(x, "award a from 0; binds if 1 =", 1, 27);
        Check.fault(x, "award a from 0; class c tasks 1+2 margin 1;", 1, 31);
        Check.fault(x, "award a from 0; class c tasks 1;2 margin 1;", 1, 31);
        Check.fault(x, "award a from 0; load l 1, 2;", 1, 24);
        Check.fault(x, "award a from 0; load l (1;", 1, 25);
        Check.fault(x, "awardabc from0;", 1, 0);
        Check.tell(x, "\t\naward abc\rfrom0;binds if0==0;load l2if3<4bars m;");
        Check.due("names", x.count(5), 3);
        Check.fault(x, "award b from 0;binds if 1<=2<3;", 1, 28);
        Check.fault(x, "award b from 0;round 00001;", 1, 21);
        Check.tell(x, "award b from 0;round 0001;");
    }

    /** What was taken back counts no more: the fault is the text's end. */
    private static void left(WageCourt x, String text, int back) {
        Check.tape(x, text);
        x.back(back);
        Check.due("read of what is left of " + text, x.read(), 1);
        Check.due("place in what is left of " + text, x.place(), text.length() - back);
    }

    private static void words() {
        String all = "award vary order firm agree from binds if over class tasks margin follows plus choose each most"
                + " highest load extra bars round strike is or and not ticket least years trade town who task weekday"
                + " half worked week wet rate";
        WageCourt x = new WageCourt();
        for (String word : all.split(" ")) {
            Check.fault(x, "award " + word + " from 0;", 1, 6);
        }
        String[] names = {"a", "firms", "taskss", "weeks", "wetter", "rates", "iff", "abcdefgh", "zzzzzzzz"};
        for (String name : names) {
            Check.tell(x, "award " + name + " from 0;");
        }
    }

    private static void grammar() {
        WageCourt x = new WageCourt();
        Check.tell(x, "award a from 139;");
        Check.tell(x, "vary a from 0;");
        Check.tell(x, "order a firm 7 from 0; strike b; margin c is 4; round 240; choose each;");
        Check.tell(x, "agree a firm 0 from 0; binds if 1==1; over a; choose highest; round 1;");
        for (int i = 0; i < 4; i++) {
            Check.due("kind of a text", x.kind(i), i);
        }
        Check.tell(x, "award b from 0000;class p tasks 0,15,0 margin(1);class q tasks 1 follows r s plus years*2-1;"
                + "load l 1 if not not ticket 7 and 1<2 or(3)!=4 bars l bars m;extra m(2)/3 bars l;choose most;");
        Check.tell(x, "award c from 0; binds if least+years+trade+town+who+task+weekday+half+worked+week+wet+rate<=9;");
        Check.tell(x, "award d from 0; load a ((((((1)))))) ; load b (1)+(2)*((3)-(4));");
    }

    /** Each text is right up to where the last TOKEN stands. */
    private static void wrongLast(String text) {
        WageCourt x = new WageCourt();
        Check.tell(x, "award aa from 0;");
        Check.fault(x, text, 1, text.lastIndexOf(' ') + 1);
        int end = text.lastIndexOf(' ') + 1;
        Check.fault(x, text.substring(0, end), 1, end);
        Check.fault(x, text.substring(0, end) + "#", 1, end);
        Check.due("facts after faults", x.count(3), 1);
    }

    private static void syntaxOfItems() {
        String[] texts = {"class", "award 1", "award a b", "award a firm", "award a from a", "vary aa from 0 ,",
            "order aa from", "order aa firm a", "order aa firm 1 ;", "agree aa firm 1 from ;", "vary aa firm",
            "award a from 0; binds 1", "award a from 0; binds if ;", "award a from 0; over 1",
            "award a from 0; over a ,", "award a from 0; class 1", "award a from 0; class a margin",
            "award a from 0; class a tasks a", "award a from 0; class a tasks 1 2",
            "award a from 0; class a tasks 1 ;", "award a from 0; class a tasks 1, ,",
            "award a from 0; class a tasks 1 margin ;", "award a from 0; class a tasks 1 follows 1",
            "award a from 0; class a tasks 1 follows b plus", "award a from 0; class a tasks 1 follows b c ;",
            "award a from 0; class a tasks 1 follows b c plus plus", "award a from 0; class a tasks 1 margin 1 if",
            "award a from 0; choose a", "award a from 0; choose each each", "award a from 0; load 1",
            "award a from 0; load a if", "award a from 0; load a 1 1", "award a from 0; load a 1 if ;",
            "award a from 0; extra a 1 bars 1", "award a from 0; extra a 1 bars b if",
            "award a from 0; extra a 1 bars b c", "award a from 0; round a", "award a from 0; round 1 2",
            "vary aa from 0; strike 1", "vary aa from 0; margin 1", "vary aa from 0; margin b 1",
            "vary aa from 0; margin b is is", "vary aa from 0; margin b is 1 if"};
        for (String text : texts) {
            wrongLast(text);
        }
        WageCourt x = new WageCourt();
        Check.fault(x, "award a from 0; from", 1, 16);
        Check.fault(x, "award a from 0; ;", 1, 16);
        Check.fault(x, "award a from 0; round 1; award", 1, 25);
        Check.fault(x, "award a from 0; round 1; 1", 1, 25);
    }

    private static void syntaxOfFormulas() {
        String[] sums = {"a", "+", "-", "* ", ") ", "not", "ticket", "( )", "( 1 ;", "1 )", "( 1 ) )", "1 + +",
            "1 + ;", "1 * *", "1 == ", "( 1 ==", "1 1", "1 (", "( 1 ) 2", "least least", "1 and", "1 <", "( not"};
        for (String sum : sums) {
            wrongLast("award a from 0; load b " + sum.trim());
        }
        String[] conds = {"1 ;", "1 and", "1 or", "( 1 ==", "( 1 ) ;", "1 == ;", "1 == 1 ==", "1 == 1 )", "not ;",
            "not and", "ticket ;", "ticket ticket", "ticket 1 ==", "ticket 1 +", "ticket 1 2", "ticket 1 and ;",
            "1 == ticket", "1 == not", "1 == 1 or or", "1 == 1 not", "1 == 1 ticket", "not ticket not", "1 < <",
            "1 + not", "1 == 1 + and", "ticket least", "( ticket", "a"};
        for (String cond : conds) {
            wrongLast("award a from 0; binds if " + cond);
        }
        WageCourt x = new WageCourt();
        Check.fault(x, "award a from 0; binds if 1 = 1;", 1, 27);
        Check.fault(x, "award a from 0; binds if 1 ! = 1;", 1, 27);
        Check.fault(x, "award a from 0; binds if 1 === 1;", 1, 29);
        Check.fault(x, "award a from 0; binds if 1 > 1;", 1, 27);
        Check.fault(x, "award a from 0; binds if 1 < = 1;", 1, 29);
        Check.fault(x, "award a from 0; binds if 1 <== 1;", 1, 29);
        Check.fault(x, "award a from 0; binds if 12345 == 1;", 1, 25);
        Check.fault(x, "award abcdefghi from 0;", 1, 6);
        Check.fault(x, "awardabcdefghi from 0;", 1, 0);
        Check.fault(x, "award a from 0; round 1; .", 1, 25);
        Check.fault(x, "award a from 0; load A 1;", 1, 21);
        Check.fault(x, "award a from 0;\u000b", 1, 15);
        Check.fault(x, "award a from 0;\u00e9", 1, 15);
        Check.fault(x, "award a from 0;\u0000", 1, 15);
    }

    private static void room() {
        WageCourt x = new WageCourt();
        String thirty = "award a from 0;" + "round 1;".repeat(30);
        Check.fault(x, thirty + "round 1;", 2, thirty.length());
        Check.fault(x, thirty + " round", 2, thirty.length() + 1);
        Check.fault(x, thirty + "a", 1, thirty.length());
        Check.fault(x, thirty + ";", 1, thirty.length());
        Check.tell(x, thirty);
        Check.fault(x, "award b from 0; load l (((((((1)))))));", 2, 29);
        Check.fault(x, "award b from 0; load l 1 if 1 == ((((((1 + (2)))))));", 2, 43);
        Check.tell(x, "award b from 0; load l ((((((1)))))) + (2) + ((((((3)))))) if ((((((1)))))) == ((((((1))))));");
        Check.fault(x, "award c from 0; class p tasks 0,1,2,3,4,5,6,7,7 margin 1;", 2, 46);
        Check.fault(x, "award c from 0; class p tasks 0,1,2,3,4,5,6,7, margin 1;", 1, 47);
        Check.tell(x, "award c from 0; class p tasks 0,1,2,3,4,5,6,7 margin 1;");
        Check.fault(x, "award d from 0; load l 1 bars a bars b bars c bars d bars e;", 2, 58);
        Check.fault(x, "award d from 0; load l 1 bars a bars b bars c bars d bars;", 1, 57);
        Check.tell(x, "award d from 0; load l 1 bars a bars b bars c bars d; load m 1 bars a bars b bars c bars d;");
    }

    /** Eight TOKENS up to the load's number, two for each + 1, four from the if on. */
    private static void roomOfTokens() {
        String head = "award a from 0; load l 1";
        String full = head + "+1".repeat(244) + " if ticket 1;";
        WageCourt x = new WageCourt();
        Check.fault(x, full + "round", 2, full.length());
        Check.fault(x, full + " x", 1, full.length() + 1);
        Check.fault(x, full + " =", 1, full.length() + 1);
        String longer = head + "+1".repeat(246);
        Check.fault(x, longer + ";", 2, longer.length());
        Check.fault(x, longer + "if", 2, longer.length());
        Check.fault(x, longer + "from", 1, longer.length());
        Check.fault(x, longer, 1, longer.length());
        Check.fault(x, head + " if " + "not ".repeat(491) + "1 == 1;", 2, head.length() + 4 + 4 * 491);
        Check.tell(x, full + "   ");
        Check.tell(x, "award b from 0; load l 1 if " + "not ".repeat(487) + "1 == 1;");
    }

    private static void late() {
        WageCourt x = new WageCourt();
        Check.tell(x, "award a from 0; class b tasks 1 margin 1;");
        Check.fault(x, "award a from 0;", 3, 6);
        Check.fault(x, " award  a from 0;", 3, 8);
        Check.fault(x, "vary b from 0;", 4, 5);
        Check.fault(x, "vary c from 0;", 4, 5);
        Check.fault(x, "order b firm 0 from 0;", 4, 6);
        Check.fault(x, "agree b firm 0 from 0;", 4, 6);
        Check.fault(x, "award a from 0", 1, 14);
        Check.fault(x, "vary b from 0; x", 1, 15);
        Check.due("names after faults", x.count(5), 2);
        Check.tell(x, "award b from 0;");
        Check.tell(x, "vary b from 0;");
    }

    private static void wrong() {
        WageCourt x = new WageCourt();
        Check.tell(x, "award a from 0;");
        Check.fault(x, "order a firm 8 from 0;", 5, 13);
        Check.fault(x, "agree a firm 9999 from 0;", 5, 13);
        Check.fault(x, "award b from 140;", 5, 13);
        Check.fault(x, "vary a from 9999;", 5, 12);
        Check.fault(x, "award b from 0; class c tasks 16 margin 1;", 5, 30);
        Check.fault(x, "award b from 0; class c tasks 1, 2, 99 margin 1;", 5, 36);
        Check.fault(x, "award b from 0; binds if ticket 8;", 5, 32);
        Check.fault(x, "award b from 0; load l 1 if not ticket 8;", 5, 39);
        Check.fault(x, "award b from 0; round 0;", 5, 22);
        Check.fault(x, "award b from 0; round 241;", 5, 22);
        Check.fault(x, "award b from 0; strike c;", 5, 16);
        Check.fault(x, "award b from 0; margin c is 1;", 5, 16);
        Check.fault(x, "agree a firm 0 from 0; strike c;", 5, 23);
        Check.fault(x, "agree a firm 0 from 0; margin c is 1;", 5, 23);
        Check.fault(x, "vary a from 0; binds if 1 == 1;", 5, 15);
        Check.fault(x, "vary a from 0; over a;", 5, 15);
        Check.fault(x, "order a firm 0 from 0; binds if 1 == 1;", 5, 23);
        Check.fault(x, "order a firm 0 from 0; over a;", 5, 23);
        Check.tell(x, "award b from 139; class c tasks 0, 15 margin 1; binds if ticket 0 or ticket 7;"
                + "round 1; round 240; over a;");
    }

    private static void full() {
        WageCourt x = new WageCourt();
        StringBuilder text = new StringBuilder("award n from 0;");
        for (int i = 1; i < 30; i++) {
            text.append(" load ").append(name(i)).append(" 1;");
        }
        Check.tell(x, text.toString());
        Check.due("names", x.count(5), 30);
        text = new StringBuilder("vary n from 0;");
        for (int i = 30; i < 58; i++) {
            text.append(" load ").append(name(i)).append(" 1;");
        }
        Check.tell(x, text.toString());
        Check.due("names", x.count(5), 58);
        Check.fault(x, "vary n from 0; strike xa; strike xb; strike n; strike xa; strike xc; strike xd;", 6, 65);
        Check.fault(x, "vary n from 0; strike xa; strike xb; strike xc; round 0;", 5, 54);
        Check.fault(x, "award xa from 0; class xb tasks 1 follows xc xd plus 1;", 6, 42);
        Check.due("names after it", x.count(5), 58);
        Check.due("named after it", Check.named(x, "xa"), -1);
        Check.tell(x, "vary n from 0; strike xa; strike xb; strike n; strike xa;");
        Check.due("names", x.count(5), 60);
        Check.fault(x, "award xc from 0;", 6, 6);
        Check.fault(x, "vary xc from 0;", 4, 5);
        Check.tell(x, "award xb from 0;");
        Check.due("named", Check.named(x, "xb"), 59);
    }

    private static String name(int i) {
        return "" + (char) ('a' + i / 26) + (char) ('a' + i % 26);
    }

    private static void order() {
        WageCourt x = new WageCourt();
        Check.tell(x, "award a from 0;");
        Check.fault(x, "award a from 140; strike b;", 3, 6);
        Check.fault(x, "vary b from 140;", 4, 5);
        Check.fault(x, "order a firm 8 from 140;", 5, 13);
        Check.fault(x, "award b from 140; strike c; round 0;", 5, 13);
        Check.fault(x, "award b from 0; strike c; round 0;", 5, 16);
        Check.fault(x, "award b from 0; round 0; strike c;", 5, 22);
        Check.fault(x, "award a from 140; load l (((((((1;", 2, 31);
        Check.fault(x, "award a from 140; load l (((((( ;", 1, 32);
        Check.fault(x, "award a from 0; class c tasks 0,1,2,3,4,5,6,7,8 margin (((((((;", 2, 46);
    }

    private static void noRoomForFacts() {
        WageCourt x = new WageCourt();
        x.town();
        x.firm(0, 0);
        Check.tell(x, "award a from 0;");
        Check.fault(x, "award b", 1, 7);
        for (int i = 1; i < 160; i++) {
            Check.due("wet", x.wet(0, 0, 0), i);
        }
        Check.due("a 161st fact", x.wet(0, 0, 0), -1);
        Check.due("read of a 161st fact", Check.read(x, "award c from 0;"), -2);
        Check.due("bytes after it", x.count(6), 15);
        Check.due("place after it", x.place(), 7);
        Check.due("facts", x.count(3), 160);
        Check.due("names", x.count(5), 1);
    }

    private static void noRoomForTexts() {
        WageCourt x = new WageCourt();
        Check.tell(x, "award a from 0;");
        for (int i = 1; i < 24; i++) {
            Check.tell(x, "vary a from 0;");
        }
        Check.due("a 25th text", Check.read(x, "vary a from 0;"), -2);
        Check.due("a 25th text again", x.read(), -2);
        Check.due("bytes after it", x.count(6), 14);
        Check.due("texts", x.count(4), 24);
        Check.due("place after it", x.place(), -1);
        Check.due("named off the same tape", x.named(), -1);
        Check.due("bytes after named", x.count(6), 0);
        Check.due("a 25th text with a fault", Check.read(x, "x"), -2);
    }
}
