/** Promises 1 to 6: a new object, the TAPE, THE ISLE, THE LAW, the first wrong byte. */
public final class TextsTest {
    private static final Check c = new Check();

    public static void main(String[] args) {
        newObject();
        tape();
        isle();
        isleFaults();
        isleLimits();
        law();
        lawFaults();
        c.end("TextsTest");
    }

    private static void newObject() {
        LedgeEggs x = new LedgeEggs();
        int[] want = {0, 0, 0, 0, -1, 0, 0, 30, 0, 100, 0, 0, 0, 0, 0, 0, 0, -1};
        for (int what = 0; what < want.length; what++) {
            c.due("new count(" + what + ")", x.count(what), want[what]);
        }
        c.due("count(-1)", x.count(-1), -1);
        c.due("new fault", x.fault(), -1);
        c.due("new seed", x.seed(7), 1);
        c.due("seed told", x.seed(1), 7);
        c.due("new undo", x.undo(), false);
        c.due("new back", x.back(), false);
        c.due("new fresh", x.fresh(), 0);
        c.due("new who", x.who(), -1);
        c.due("new lightest", x.lightest(), -1);
        c.due("new lucky", x.lucky(), -1);
        c.due("new rests", x.rests(), 15);
        c.due("new split", x.split(false), 0);
        c.due("new split part", x.split(true), 0);
        c.due("new how(0)", x.how(0, false), 1);
        c.due("new how(0) sure", x.how(0, true), 0);
        c.due("new how(1)", x.how(1, false), 0);
        c.due("new harvest", x.harvest(10, -1), 0);
        c.due("new loss", x.loss(10), 0);
        c.due("new leave(0)", x.leave(0), 0);
        c.due("new leave(1)", x.leave(1), -1);
        c.due("new pairs", x.pairs(39), 0);
        c.due("new round", x.round(-1), 0);
        c.due("new share", x.share(9, false), 4);
        c.due("new share of the rope", x.share(9, true), 5);
    }

    private static void tape() {
        LedgeEggs x = new LedgeEggs();
        c.due("end(0) of nothing", x.end(0), true);
        c.due("end(1) of nothing", x.end(1), false);
        c.due("end(-1)", x.end(-1), false);
        c.due("feed", x.feed(0x67616c65, 0x20373720, 0x20202020, 0x20202020, 0x2020203b), 20);
        c.due("end(21)", x.end(21), false);
        c.due("end(19)", x.end(19), true);
        c.due("isle of gale 77", x.isle(), 1);
        c.due("the tape is used up", x.end(1), false);
        for (int n = 20; n <= 400; n += 20) {
            c.due("feed to " + n, x.feed(-1, 0, 0, 0, 0), n);
        }
        c.due("feed beyond 400", x.feed(0, 0, 0, 0, 0), -1);
        c.due("end(400)", x.end(400), true);
        c.due("end(381)", x.end(381), true);
        c.due("feed that would be 401", x.feed(0, 0, 0, 0, 0), -1);
        c.due("end(381) again", x.end(382), false);
        c.due("end(380)", x.end(380), true);
        c.due("feed to just 400", x.feed(0, 0, 0, 0, 0), 400);
        c.dueThrow("byte 255", x::isle, IllegalArgumentException.class);
        c.due("a wrong text is used up, too", x.end(1), false);
        c.due("byte 255 is wrong", x.fault(), 0);
    }

    private static void isle() {
        LedgeEggs x = Check.isle("  ledge40roof 030 eggs 20 age 99 birds 9 ;rope 40 bears 999;holder 9; climber 20;gale 100;stones 0 ");
        c.due("fathom", x.ledge(0, 0), 40);
        c.due("roof", x.ledge(0, 1), 30);
        c.due("eggs", x.ledge(0, 2), 20);
        c.due("age", x.ledge(0, 3), 99);
        c.due("birds", x.ledge(0, 4), 9);
        c.due("length", x.count(7), 40);
        c.due("bears", x.count(9), 999);
        c.due("strength", x.holder(0, false), 9);
        c.due("weight", x.climber(0, 0), 20);
        c.due("texts", x.count(3), 1);
        Check.tell(x, "ledge 1 roof 0 eggs 0 age 99 birds 0;holder 1;climber 1;rope 1 bears 1");
        c.due("a second text", x.isle(), 2);
        c.due("ledges of both", x.count(0), 2);
        c.due("age without eggs", x.ledge(1, 3), 0);
        c.due("holders of both", x.count(1), 2);
        c.due("climbers of both", x.count(2), 2);
        c.due("rope anew", x.count(7), 1);
        c.due("bears anew", x.count(9), 1);
        Check.tell(x, "holder 5;climber 5;rope 3 bears 3;ledge 5 roof 3 eggs 1 age 1 birds 1;gale 3;egg");
        c.dueThrow("wrong behind right lines", x::isle, IllegalArgumentException.class);
        c.due("fault there", x.fault(), 77);
        c.due("no holder stays", x.count(1), 2);
        c.due("no climber stays", x.count(2), 2);
        c.due("no ledge stays", x.count(0), 2);
        c.due("no rope stays", x.count(7), 1);
        c.due("no text stays", x.count(3), 2);
        LedgeEggs y = Check.isle("ledge 9 roof 4 eggs 2 age 0 birds 0;holder 9;climber 1");
        y.let(0, 0, 1);
        c.due("frayed", y.count(8), 4);
        Check.tell(y, "rope 30 bears 100");
        y.isle();
        c.due("a rope told anew has no fray", y.count(8), 0);
        c.due("holders stay tired", y.holder(0, true), 1);
    }

    private static void isleFaults() {
        c.isleFault("", -1);
        c.isleFault("     ", -1);
        c.isleFault("gale 0", -1);
        c.isleFault("gale 000;stones 100;gale100", -1);
        c.isleFault(";", 0);
        c.isleFault("  ;gale 1", 2);
        c.isleFault("gale 1;", 7);
        c.isleFault("gale 1 ;  ", 10);
        c.isleFault("gale 1;;gale 1", 7);
        c.isleFault("gale", 4);
        c.isleFault("gale   ", 7);
        c.isleFault("gale 0001", 5);
        c.isleFault("gale 101", 5);
        c.isleFault("gale -1", 5);
        c.isleFault("gale x", 5);
        c.isleFault("gale 1x", 6);
        c.isleFault("gale 1 2", 7);
        c.isleFault("gales 1", 0);
        c.isleFault("gal 1", 0);
        c.isleFault("Gale 1", 0);
        c.isleFault("galez 1", 0);
        c.isleFault("galea 1", 0);
        c.isleFault("ledge 1 roof 31 eggs 0 age 0 birds 0", 13);
        c.isleFault("ledge 1 roof 30 eggs 21 age 0 birds 0", 21);
        c.isleFault("ledge 1 roof 30 eggs 20 age 100 birds 0", 28);
        c.isleFault("ledge 1 roof 30 eggs 20 age 99 birds 10", 37);
        c.isleFault("holder 10", 7);
        c.isleFault("holder 0", 7);
        c.isleFault("climber 21", 8);
        c.isleFault("rope 40 bears 1000", 14);
        c.isleFault("gale\t1", 4);
        c.isleFault("gale 1\n", 6);
        c.isleFault("1 gale", 0);
        c.isleFault("ledge 0 roof 0 eggs 0 age 0 birds 0", 6);
        c.isleFault("ledge 1 eggs 0", 8);
        c.isleFault("ledge roof 1", 6);
        c.isleFault("ledge 1 roof 1 eggs 1 age 1", 27);
        c.isleFault("ledge 1 roof 1 eggs 1 age 1 birds", 33);
        c.isleFault("ledge 1 roof 1 eggs 1 age 1 bird 1", 28);
        c.isleFault("ledge1roof1eggs1age1birds1;ledge40roof30eggs20age99birds9", -1);
        c.isleFault("rope 41 bears 1", 5);
        c.isleFault("rope 1", 6);
        c.isleFault("rope 1 bears 0", 13);
        c.isleFault("rope x bears 0", 5);
        c.isleFault("rope 1;", 6);
        c.isleFault("climber 0", 8);
        c.isleFault("climber 20;climber 1", -1);
        c.isleFault("stones 100;stones 101", 18);
        c.isleFault("ledge 41 roof 99 x", 6);
    }

    private static void isleLimits() {
        String ledge = "ledge1roof1eggs1age1birds1";
        c.isleFault(String.join(";", java.util.Collections.nCopies(10, ledge)), -1);
        c.isleFault(String.join(";", java.util.Collections.nCopies(11, ledge)), 270);
        c.isleFault(String.join(";", java.util.Collections.nCopies(6, "holder 1")), -1);
        c.isleFault(String.join(";", java.util.Collections.nCopies(7, "holder 1")), 54);
        c.isleFault(String.join(";", java.util.Collections.nCopies(5, "climber 1")), 40);
        c.isleFault(String.join(";", java.util.Collections.nCopies(15, "gale 1")), 98);
        c.isleFault(String.join(";", java.util.Collections.nCopies(4, "climber 1")), -1);
        c.isleFault(String.join(";", java.util.Collections.nCopies(14, "gale 1")), -1);
        c.isleFault(String.join(";", java.util.Collections.nCopies(14, "gale 1")) + " ;  ", 101);
        LedgeEggs x = Check.isle("holder 1;holder 2;holder 3;holder 4;holder 5");
        Check.tell(x, "gale 1; holder 6; holder 7");
        c.dueThrow("a holder too many over two texts", x::isle, IllegalArgumentException.class);
        c.due("its first word", x.fault(), 18);
        c.due("holders stay", x.count(1), 5);
        LedgeEggs y = new LedgeEggs();
        for (int n = 1; n <= 12; n++) {
            c.due("text " + n, y.isle(), n);
        }
        Check.tell(y, "gale 1 1");
        c.dueThrow("a wrong 13th text", y::isle, IllegalArgumentException.class);
        c.due("its fault", y.fault(), 7);
        Check.tell(y, "rope 9 bears 9");
        c.dueThrow("a 13th text", y::isle, UnsupportedOperationException.class);
        c.due("it was read without a fault", y.fault(), -1);
        c.due("it is used up", y.end(1), false);
        c.due("nothing of it stays", y.count(7), 30);
        c.due("there are 12", y.count(3), 12);
    }

    private static void law() {
        LedgeEggs x = Check.isle("ledge 12 roof 9 eggs 3 age 2 birds 7");
        c.due("no law", x.count(4), -1);
        Check.tell(x, " swing 2 if kick < 3;lay 4 ;wear 3 if fresh ; lay 2 if not fresh");
        c.due("four lines", x.law(), 4);
        c.due("count(4)", x.count(4), 4);
        c.due("swing of kick 1", x.swing(0, 1, 0), 3);
        c.due("swing of kick 3", x.swing(0, 3, 0), 1);
        c.due("lays", x.ledge(0, 5), 4);
        Check.tell(x, "lay 1");
        c.due("in place of the one before", x.law(), 1);
        c.due("swing without its line", x.swing(0, 1, 0), 1);
        Check.tell(x, "lay 2;");
        c.dueThrow("a wrong law", x::law, IllegalArgumentException.class);
        c.due("the law before stays", x.ledge(0, 5), 1);
        c.due("its lines stay", x.count(4), 1);
        Check.tell(x, "   ");
        c.due("blanks alone", x.law(), 0);
        c.due("no line holds", x.ledge(0, 5), 0);
        conditions(x);
    }

    private static void conditions(LedgeEggs x) {
        // fathom 12, roof 9, eggs 3, age 2, birds 7; kick 0, wind 0, day 0
        String[] hold = {"fresh", "not not fresh", "fathom > 11", "fathom < 13", "roof + 3 > 11", "eggs+age+birds > 11",
            "eggs + age < 6", "0 < 1", "999 > 998", "kick < 1", "wind < 1", "day < 1", "1 < 0 or fresh", "fresh or 1 < 0 and 1 < 0",
            "(fresh or 1 < 0) and 0 < 1", "not (1 > 2)", "not 1 > 2", "not 1 > 2 and fresh", "((((((fresh))))))",
            "not(not(not 1 > 2))and fresh", "not not not not not not fresh", "1<2or 2<1", "fresh and fresh and fresh or 1 > 1"};
        for (String text : hold) {
            Check.law(x, "lay 5 if " + text);
            c.due("holds: " + text, x.ledge(0, 5), 5);
        }
        String[] fail = {"not fresh", "fathom > 12", "fathom < 12", "roof > 9", "eggs + eggs < 6", "day > 0", "wind > 0", "kick > 0",
            "fresh and not fresh", "not fresh or 2 < 1", "(fresh or fresh) and 1 > 1", "1 > 1 and fresh or 1 > 1 and fresh",
            "not (fresh or 1 > 2)", "not fresh and fresh", "not not not fresh"};
        for (String text : fail) {
            Check.law(x, "lay 5 if " + text);
            c.due("does not hold: " + text, x.ledge(0, 5), 0);
        }
        String deep = "1>2 or 1<2 and ";
        String six = (deep + "(").repeat(6) + deep;
        Check.law(x, "lay 5 if " + six + "1<1+1" + ")".repeat(6));
        c.due("six deep, all sides open", x.ledge(0, 5), 5);
        Check.law(x, "lay 5 if " + six + "1>1+1" + ")".repeat(6));
        c.due("six deep, and it fails", x.ledge(0, 5), 0);
        Check.law(x, "lay 5 if 1 < 2 and 2 < 3 or not fresh;lay 5");
        c.due("birds at most", x.ledge(0, 5), 7);
    }

    private static void lawFaults() {
        c.lawFault("lay 20", -1);
        c.lawFault("lay 21", 4);
        c.lawFault(String.join(";", java.util.Collections.nCopies(12, "wear 5")), -1);
        c.lawFault(String.join(";", java.util.Collections.nCopies(13, "wear 5")), 84);
        c.lawFault("lay 0", -1);
        c.lawFault("lay 020 if 999 < 1", -1);
        c.lawFault("lay 0020", 4);
        c.lawFault("lay 5 if 1000 < 1", 9);
        c.lawFault("lay 5 if 1 < 0001", 13);
        c.lawFault("lay 5 iff fresh", 6);
        c.lawFault("lay 5 iffresh", 6);
        c.lawFault("lay 5 fresh", 6);
        c.lawFault("lay 5 if fresh fresh", 15);
        c.lawFault("lay 5 if fresh and", 18);
        c.lawFault("lay 5 if fresh or ", 18);
        c.lawFault("lay 5 if fresh and or", 19);
        c.lawFault("lay 5 if and", 9);
        c.lawFault("lay 5 if not", 12);
        c.lawFault("lay 5 if ()", 10);
        c.lawFault("lay 5 if (eggs) < 3", 14);
        c.lawFault("lay 5 if eggs < 3 < 4", 18);
        c.lawFault("lay 5 if eggs + < 3", 16);
        c.lawFault("lay 5 if eggs = 3", 14);
        c.lawFault("lay 5 if eggs <", 15);
        c.lawFault("lay 5 if eggs < fresh", 16);
        c.lawFault("lay 5 if eggs < 3)", 17);
        c.lawFault("lay 5 if (fresh;lay 5", 15);
        c.lawFault("lay 5 if egg < 3", 9);
        c.lawFault("lay 5 if Fresh", 9);
        c.lawFault(";lay 5", 0);
        c.lawFault("lay;5", 3);
        c.lawFault("ledge 1 roof 1 eggs 1 age 1 birds 1", 0);
        c.lawFault("lay 5 if (((((((fresh)))))))", 15);
        c.lawFault("lay 5 if not ( not ( not ( not fresh", 27);
        c.lawFault("lay 5 if not(not(not(not fresh)))", 21);
        c.lawFault("lay 5 if not ( not ( not ( fresh ) ) ) or not fresh", -1);
        c.lawFault("lay 5 if (1<2) and (1<2) and (1<2) and (1<2) and (1<2) and (1<2) and (1<2)", -1);
        c.lawFault(String.join(";", java.util.Collections.nCopies(12, "lay 5")) + ";", 72);
        c.lawFault("lay 5 if " + "1+".repeat(190) + "1 < 1", -1);
    }
}
