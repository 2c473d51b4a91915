import java.util.function.ToIntFunction;

/** Bounds of the TAPE, of the two texts and of the first wrong byte: "Terms", and promises 1 to 6. */
final class BoundsOfTexts extends Bound {
    static void all() {
        newObject();
        feed();
        end();
        numbersOfLedges();
        numbersOfTheRest();
        howMany();
        linesAndTexts();
        isleRemarks();
        digits();
        lawNumbers();
        lawLines();
        lawParts();
        lawAsLongAsTheTape();
        words();
        blanks();
        emptyTexts();
        depth();
        firstWrongByte();
        nothingStays();
        isleAndLaw();
        fault();
    }

    private static void newObject() {
        doc.promise(1, "A bare cliff.");
        doc.terms("LENGTH 1 to 40 (30 at first), FRAY 0 to 999 (0 at first), BEARS 1 to 999 (100 at first)");
        doc.terms("DAY: 0 at first; WIND 0 to 9: the latest (0 at first).");
        LedgeEggs x = new LedgeEggs();
        int[] want = {0, 0, 0, 0, NONE, 0, 0, 30, 0, 100, 0, 0, 0, 0, 0, 0, 0};
        for (int what = 0; what < want.length; what++) {
            due("count(" + what + ") of a bare cliff", x.count(what), want[what]);
        }
        due("SEED 1 at first", x.seed(1), 1);
        due("its TAPE has nothing", x.end(1), false);
        due("nothing was read", x.fault(), NONE);
        due("nothing to undo", x.undo(), false);
        due("no image", x.back(), false);
    }

    private static void feed() {
        doc.promise(2, "Twenty bytes come behind the TAPE, of each number the highest first: how many it has;");
        LedgeEggs x = new LedgeEggs();
        due("the first twenty", x.feed(0x686f6c64, 0x65722037, 0x3b677878, 0x20202020, 0x20202078), 20);
        due("its first ten alone", x.end(10), true);
        due("twenty behind them", x.feed(0x616c6520, 0x393b7374, 0x6f6e6573, 0x20382020, 0x20202020), 30);
        due("all in their order", x.isle(), 1);
        due("holder 7", x.holder(0, false), 7);
        due("a byte of 255 is one byte", x.feed(-1, -1, -1, -1, -1), 20);
        doc.promise(2, "NONE, and none come, if it would have more than 400.");
        LedgeEggs y = new LedgeEggs();
        for (int has = 20; has <= 400; has += 20) {
            due("feed to " + has, y.feed(0x20202020, 0x20202020, 0x20202020, 0x20202020, 0x20202020), has);
        }
        due("400 are full", y.feed(0, 0, 0, 0, 0), NONE);
        due("none came", y.end(401), false);
        due("400 are there", y.end(400), true);
        due("cut to 381", y.end(381), true);
        due("401 would be too many", y.feed(0, 0, 0, 0, 0), NONE);
        due("none came to 381", y.end(382), false);
        due("the text is as it was: blanks alone", y.isle(), 1);
        Check.tell(y, " ".repeat(380));
        due("380 and twenty are just 400", y.feed(0x20202020, 0x20202020, 0x20202020, 0x20202020, 0x20202078), 400);
        refused("the last of them is read", y::isle, ARGUMENT);
        due("at 399", y.fault(), 399);
    }

    private static void end() {
        doc.promise(3, "The TAPE has its first n bytes alone: true;");
        LedgeEggs x = new LedgeEggs();
        Check.tell(x, "gale 1;gale 2;gale 3");
        due("all its bytes", x.end(20), true);
        due("nothing is lost by that", x.end(20), true);
        due("its first ones alone", x.end(6), true);
        due("the rest is gone", x.end(7), false);
        due("what is left is a text", x.isle(), 1);
        Check.tell(x, "gale 1;");
        due("no byte is left", x.end(0), true);
        due("that is an empty text", x.isle(), 2);
        doc.promise(3, "false, and nothing happens, if it has fewer, or n is below 0.");
        LedgeEggs y = new LedgeEggs();
        due("an empty TAPE has 0", y.end(0), true);
        due("and not 1", y.end(1), false);
        Check.tell(y, "holder 1;holder 2;gale");
        for (int n : new int[] {23, 24, 400, 401, MOST, -1, LEAST}) {
            due("end(" + n + ") of 22", y.end(n), false);
        }
        refused("all 22 bytes are there", y::isle, ARGUMENT);
        due("so many", y.fault(), 22);
    }

    /** Least and most are taken; one less and one more are refused at the number's begin. */
    private static void number(String ahead, String behind, int least, int most, ToIntFunction<LedgeEggs> told) {
        for (int n : new int[] {least, most}) {
            LedgeEggs x = new LedgeEggs();
            Check.tell(x, ahead + n + behind);
            due("isle '" + ahead + n + behind + "'", Check.answer(x::isle), 1);
            due("what was told by it", told.applyAsInt(x), n);
        }
        c.isleFault(ahead + (least - 1) + behind, ahead.length());
        c.isleFault(ahead + (most + 1) + behind, ahead.length());
        c.isleFault(ahead + "999" + (most == 999 ? "9" : "") + behind, ahead.length());
    }

    private static void numbersOfLedges() {
        doc.terms("FATHOM 1 to 40");
        number("ledge ", " roof 1 eggs 1 age 1 birds 1", 1, 40, x -> x.ledge(0, 0));
        doc.terms("ROOF 0 to 30");
        number("ledge 1 roof ", " eggs 1 age 1 birds 1", 0, 30, x -> x.ledge(0, 1));
        doc.terms("EGGS 0 to 20");
        number("ledge 1 roof 1 eggs ", " age 1 birds 1", 0, 20, x -> x.ledge(0, 2));
        doc.terms("AGE 0 to 99 (DAYS since the oldest egg came)");
        number("ledge 1 roof 1 eggs 1 age ", " birds 1", 0, 99, x -> x.ledge(0, 3));
        doc.terms("BIRDS 0 to 9");
        number("ledge 1 roof 1 eggs 1 age 1 birds ", "", 0, 9, x -> x.ledge(0, 4));
    }

    private static void numbersOfTheRest() {
        doc.terms("LENGTH 1 to 40");
        number("rope ", " bears 5", 1, 40, x -> x.count(7));
        doc.terms("BEARS 1 to 999");
        number("rope 5 bears ", "", 1, 999, x -> x.count(9));
        doc.terms("STRENGTH 1 to 9, TIRED 0 at first.");
        number("holder ", "", 1, 9, x -> x.holder(0, false) + x.holder(0, true));
        doc.terms("WEIGHT 1 to 20, EGGS that one has (0 at first).");
        number("climber ", "", 1, 20, x -> x.climber(0, 0) + x.climber(0, 1));
        doc.terms("GALE, STONES 0 to 100 (0 at first).");
        number("gale ", "", 0, 100, BoundsOfTexts::galeOf);
        number("stones ", ";ledge 1 roof 0 eggs 0 age 0 birds 0;holder 9;climber 1", 0, 100, BoundsOfTexts::stonesOf);
        String crew = ";ledge 1 roof 0 eggs 0 age 0 birds 0;holder 9;climber 1";
        due("GALE alone", galeOf(isle("gale 100;stones 0" + crew)), 100);
        due("no STONES by it", stonesOf(isle("gale 100;stones 0" + crew)), 0);
        due("no GALE by STONES", galeOf(isle("gale 0;stones 100" + crew)), 0);
        due("STONES alone", stonesOf(isle("gale 0;stones 100" + crew)), 100);
        due("GALE 0 at first", galeOf(new LedgeEggs()), 0);
        due("STONES 0 at first", stonesOf(isle(at(1, 0, 0, 0, 0), "holder 9", "climber 1")), 0);
    }

    /** 0 if not even a DRAW of 0 makes a gale, 100 if also one of 99 does. */
    private static int galeOf(LedgeEggs x) {
        x.seed(seedWith(2, 0));
        x.days(1);
        boolean ever = x.count(6) == 9;
        x.seed(seedWith(2, 99));
        x.days(1);
        return x.count(6) == 9 ? 100 : ever ? 1 : 0;
    }

    private static int stonesOf(LedgeEggs x) {
        x.seed(seedWith(1, 0));
        x.let(0, 0, 0);
        boolean ever = x.count(12) == 1;
        x.seed(seedWith(1, 99));
        x.let(0, 0, 0);
        return x.count(12) == 2 ? 100 : ever ? 1 : 0;
    }

    private static void howMany() {
        doc.terms("LEDGES (at most 10, numbered from 0 on)");
        String ledge = at(1, 1, 1, 1, 1);
        LedgeEggs x = isle(times(9, ledge), at(7, 1, 1, 1, 1));
        due("10 LEDGES", x.count(0), 10);
        due("the first is 0", x.ledge(0, 0), 1);
        due("the tenth is 9", x.ledge(9, 0), 7);
        refused("there is no LEDGE 10", () -> x.ledge(10, 0), INDEX);
        refused("nor one below 0", () -> x.ledge(-1, 0), INDEX);
        tooMany(x, "ledge 1 roof 1 eggs 1 age 1 birds 1");
        c.isleFault(times(11, ledge), 10 * (ledge.length() + 1));
        doc.terms("HOLDERS (at most 6, numbered from 0 on)");
        LedgeEggs y = isle(times(5, "holder 1"), "holder 9");
        due("6 HOLDERS", y.count(1), 6);
        due("the first is 0", y.holder(0, false), 1);
        due("the sixth is 5", y.holder(5, false), 9);
        refused("there is no HOLDER 6", () -> y.holder(6, false), INDEX);
        tooMany(y, "holder 1");
        c.isleFault(times(7, "holder 1"), 54);
        doc.terms("CLIMBERS (at most 4, numbered from 0 on)");
        LedgeEggs z = isle(times(3, "climber 1"), "climber 20");
        due("4 CLIMBERS", z.count(2), 4);
        due("the first is 0", z.climber(0, 0), 1);
        due("the fourth is 3", z.climber(3, 0), 20);
        refused("there is no CLIMBER 4", () -> z.climber(4, 0), INDEX);
        tooMany(z, "climber 1");
        c.isleFault(times(5, "climber 1"), 40);
    }

    private static void tooMany(LedgeEggs x, String line) {
        String ahead = Digest.of(x);
        Check.tell(x, "gale 7; " + line);
        refused("one more: " + line, x::isle, ARGUMENT);
        due("its first word", x.fault(), 8);
        Check.tell(x, "");
        due("all is as it was", Digest.of(x).replace("fault 8", "fault -1"), ahead);
    }

    private static void linesAndTexts() {
        doc.terms("at most 14: ledge N roof N eggs N age N birds N");
        c.isleFault(times(14, "gale 1"), NONE);
        c.isleFault(times(15, "gale 1"), 14 * 7);
        c.isleFault(times(14, "gale 1") + ";   stones 1", 14 * 7 + 3);
        c.isleFault(times(14, "gale 1") + ";", 14 * 7);
        c.isleFault(times(14, "gale 1") + " ;  ", 14 * 7 + 3);
        doc.terms("THE ISLE is told in texts (at most 12, one behind another)");
        LedgeEggs x = new LedgeEggs();
        for (int n = 1; n <= 12; n++) {
            Check.tell(x, n <= 10 ? at(n, 0, 0, 0, 0) : "gale 1");
            due("text " + n, x.isle(), n);
            due("a LEDGE behind the others", x.ledge(Math.min(n, 10) - 1, 0), Math.min(n, 10));
        }
        refused("a 13th, though empty", x::isle, UNSUPPORTED);
        due("there are 12", x.count(3), 12);
    }

    private static void isleRemarks() {
        doc.terms("a rope told anew has FRAY 0; age of a LEDGE without EGGS counts as 0.");
        LedgeEggs x = isle(at(1, 5, 0, 99, 1), at(1, 5, 1, 99, 1), "rope 9 bears 9", "holder 9", "climber 1");
        due("AGE without EGGS", x.ledge(0, 3), 0);
        due("AGE with one", x.ledge(1, 3), 99);
        c.isleFault("ledge 1 roof 1 eggs 0 age 100 birds 1", 26);
        x.let(0, 0, 0);
        due("frayed", x.count(8), 5);
        more(x, "gale 1");
        due("another text leaves FRAY", x.count(8), 5);
        more(x, "rope 9 bears 9");
        due("the same rope told anew", x.count(8), 0);
        due("other LINES of the text count, too", isle("rope 1 bears 1;gale 1;rope 2 bears 3").count(9), 3);
    }

    private static void digits() {
        doc.terms("Numbers are of 1 to 3 digits.");
        for (String right : new String[] {"gale 1", "gale 01", "gale 001", "gale 000", "gale 100"}) {
            c.isleFault(right, NONE);
        }
        due("three digits are read from the left", isle("climber 012").climber(0, 0), 12);
        for (String wrong : new String[] {"gale 0001", "gale 0000", "gale 1000", "gale 00000000000000000001", "gale x", "gale ;"}) {
            c.isleFault(wrong, 5);
        }
        c.isleFault("gale 4294967297", 5);
        c.isleFault("gale", 4);
        doc.terms("All numbers are of 1 to 3 digits (N 0 to 20).");
        c.lawFault("lay 1", NONE);
        c.lawFault("lay 01", NONE);
        c.lawFault("lay 020", NONE);
        c.lawFault("lay 0020", 4);
        c.lawFault("lay 0000", 4);
        c.lawFault("lay", 3);
        c.lawFault("lay 1 if 000 < 999", NONE);
        c.lawFault("lay 1 if 1000 < 1", 9);
        c.lawFault("lay 1 if 1 < 0001", 13);
        c.lawFault("lay 1 if 1 < 1 + 1000", 17);
        c.lawFault("lay 1 if 1 <", 12);
    }

    private static void lawNumbers() {
        for (String kind : new String[] {"swing", "wear", "lay"}) {
            c.lawFault(kind + " 0", NONE);
            c.lawFault(kind + " 20", NONE);
            c.lawFault(kind + " 21", kind.length() + 1);
            c.lawFault(kind + " -1", kind.length() + 1);
            c.lawFault(kind + " 999", kind.length() + 1);
        }
        doc.terms("the sum of N of all swing LINES that hold, and 1.");
        LedgeEggs x = isle(at(1, 30, 1, 0, 9), at(1, 0, 1, 0, 8), "rope 9 bears 999", "holder 9", "climber 1");
        law(x, "swing 0");
        due("nothing, and 1", x.swing(0, 1, 0), 1);
        law(x, times(12, "swing 20"));
        due("as much as there may be, and 1", x.swing(0, 12, 9), 241);
        doc.terms("WEAR: the sum of N of all wear LINES that hold.");
        law(x, "wear 0");
        x.let(0, 1, 0);
        due("no WEAR, no KICKS", x.count(8), 0);
        law(x, times(12, "wear 20"));
        x.let(0, 1, 0);
        due("as much WEAR as there may be", x.count(8), 240);
        doc.terms("LAYS: the sum of N of all lay LINES that hold, BIRDS at most.");
        int[] lays = {0, 8, 9, 9};
        int[] fewer = {0, 8, 8, 8};
        for (int i = 0; i < 4; i++) {
            law(x, "lay " + new int[] {0, 8, 9, 10}[i]);
            due("LAYS of 9 BIRDS", x.ledge(0, 5), lays[i]);
            due("LAYS of 8 BIRDS", x.ledge(1, 5), fewer[i]);
        }
        law(x, times(12, "lay 20"));
        due("240 by 9 BIRDS", x.ledge(0, 5), 9);
        LedgeEggs y = isle(at(1, 0, 0, 0, 0));
        law(y, "lay 20");
        due("without BIRDS", y.ledge(0, 5), 0);
    }

    private static void lawLines() {
        doc.terms("(a text, in place of the one before): LINE { ; LINE }, at most 12: swing N");
        c.lawFault(times(12, "lay 5"), NONE);
        c.lawFault(times(13, "lay 5"), 72);
        c.lawFault(times(12, "lay 5") + ";  wear 1", 74);
        c.lawFault(times(12, "lay 5") + ";", 72);
        c.lawFault("lay 1;;lay 1", 6);
        c.lawFault(";lay 1", 0);
        LedgeEggs x = isle(at(1, 0, 1, 0, 9));
        doc.terms("(Without a text no LINE holds.)");
        due("LINES without a text", x.count(4), NONE);
        due("LAYS without a text", x.ledge(0, 5), 0);
        due("SWING without a text", x.swing(0, 1, 0), 1);
        law(x, "lay 1;lay 2;lay 3");
        due("three LINES", x.ledge(0, 5), 6);
        law(x, "swing 1");
        due("in place of the one before", x.ledge(0, 5), 0);
        due("one LINE", x.count(4), 1);
        law(x, "");
        due("an empty one, too", x.swing(0, 1, 0), 1);
        due("no LINE, but a text", x.count(4), 0);
    }

    private static int laid(LedgeEggs x, String condition) {
        law(x, "lay 1 if " + condition);
        return x.ledge(0, 5);
    }

    private static void lawParts() {
        doc.terms("fresh: it has EGGS and AGE 3 at most; kick: that KICK's number (from 1 on; 0 for wear and lay LINES).");
        due("AGE 3", laid(isle(at(1, 0, 1, 3, 1)), "fresh"), 1);
        due("AGE 4", laid(isle(at(1, 0, 1, 4, 1)), "fresh"), 0);
        due("AGE 0", laid(isle(at(1, 0, 20, 0, 1)), "fresh"), 1);
        due("without EGGS", laid(isle(at(1, 0, 0, 0, 1)), "fresh"), 0);
        LedgeEggs x = isle(at(40, 30, 20, 99, 9), at(1, 0, 3, 0, 9), "rope 40 bears 999", "holder 9", "climber 1");
        due("kick of a lay LINE is not above 0", laid(x, "kick > 0"), 0);
        due("nor is it 1", laid(x, "kick < 1"), 1);
        due("nor below 0", laid(x, "kick + 1 > 0"), 1);
        law(x, "wear 3 if kick < 1;wear 5 if kick > 0;wear 7 if kick + 1 > 0");
        x.let(0, 1, 0);
        due("kick of a wear LINE is 0", x.count(8), 10);
        law(x, "swing 1 if kick < 2;swing 2 if kick > 11;swing 4 if kick < 1;swing 8 if kick > 12");
        due("the first KICK is 1", x.swing(0, 1, 0), 2);
        due("the second is 2", x.swing(0, 2, 0), 1);
        due("the twelfth is 12", x.swing(0, 12, 0), 3);
        due("equal is not below", laid(x, "fathom < 40"), 0);
        due("equal is not above", laid(x, "fathom > 40"), 0);
        due("one above is below", laid(x, "fathom < 41 and roof < 31 and eggs < 21 and age < 100 and birds < 10 and wind < 1 and day < 1"), 1);
        due("one below is above", laid(x, "fathom > 39 and roof > 29 and eggs > 19 and age > 98 and birds > 8"), 1);
        due("999 is the most", laid(x, "999 < 999 + 1 and 998 < 999"), 1);
        due("a sum of 91 parts", laid(x, "999+".repeat(90) + "999 > 0"), 1);
    }

    private static void lawAsLongAsTheTape() {
        doc.terms("C: ALL { or ALL }; ALL: ATOM { and ATOM }; ATOM: not ATOM | ( C ) | fresh | SUM < SUM | SUM > SUM. SUM: PART { + PART };");
        LedgeEggs x = isle(at(1, 0, 0, 0, 1));
        due("the last of many is enough", laid(x, "1>2or ".repeat(64) + "1<2"), 1);
        due("none of many", laid(x, "1>2or ".repeat(64) + "2<1"), 0);
        due("all of many", laid(x, "1<2and ".repeat(55) + "1<2"), 1);
        due("the last of many is missing", laid(x, "1<2and ".repeat(55) + "2<1"), 0);
        due("and binds ahead of or", laid(x, "1<2 or 1>2 and 1>2"), 1);
        due("on its other side, too", laid(x, "1>2 and 1>2 or 1<2"), 1);
        due("but for (", laid(x, "(1<2 or 1<2) and 1>2"), 0);
        due("a sum of as many as there is room for", laid(x, "0+".repeat(190) + "1 < 2"), 1);
        due("each of them counts", laid(x, "1+".repeat(190) + "1 > 190"), 1);
        due("just so many", laid(x, "1+".repeat(190) + "1 < 191"), 0);
    }

    private static void words() {
        doc.terms("Words are as long as a to z go on;");
        c.isleFault("gale1", NONE);
        c.isleFault("galea 1", 0);
        c.isleFault("galez 1", 0);
        c.isleFault("gales 1", 0);
        c.isleFault("gal 1", 0);
        c.isleFault("g ale 1", 0);
        c.isleFault("hale 1", 0);
        c.isleFault("gane 1", 0);
        c.isleFault("gals 1", 0);
        c.isleFault("gale`1", 4);
        c.isleFault("gale{1", 4);
        c.isleFault("galeA 1", 4);
        c.isleFault("GALE 1", 0);
        c.isleFault("gale 1/", 6);
        c.isleFault("gale 1:", 6);
        c.lawFault("lay 1 iffresh", 6);
        c.lawFault("lay 1 if fresha", 9);
        c.lawFault("lay 1 if notfresh", 9);
        c.lawFault("lay 1 if fresh andfresh", 15);
        c.lawFault("lay 1 if fresh orfresh", 15);
        c.lawFault("lay 1 if 1<2and 1<2or(1<2)or not(fresh)", NONE);
        c.lawFault("lay1if1<2", NONE);
    }

    private static void blanks() {
        doc.terms("between all there may be blanks (32), also ahead and behind.");
        c.isleFault("   ledge   1   roof   2   eggs   3   age   4   birds   5   ;   rope   6   bears   7   ", NONE);
        c.isleFault("ledge1roof2eggs3age4birds5;rope6bears7;holder1;climber1;gale0;stones0", NONE);
        c.lawFault("  lay  1  if  not  (  eggs  +  1  <  2  )  and  fresh  ;  wear  1  ", NONE);
        c.isleFault("gale 1 0", 7);
        for (int sign : new int[] {0, 9, 10, 13, 31, 33, 127, 128, 160, 255}) {
            c.isleFault("gale" + (char) sign + "1", 4);
            c.isleFault((char) sign + "gale 1", 0);
            c.isleFault("gale 1" + (char) sign, 6);
        }
    }

    private static void emptyTexts() {
        doc.terms("A text that is empty, or blanks alone, has no LINE.");
        for (String text : new String[] {"", " ", " ".repeat(400)}) {
            c.isleFault(text, NONE);
            c.lawFault(text, NONE);
            LedgeEggs x = new LedgeEggs();
            Check.tell(x, text);
            due("a law of no LINE", x.law(), 0);
            due("so many LINES", x.count(4), 0);
            Check.tell(x, text);
            due("a text of no LINE is one", x.isle(), 1);
        }
        c.isleFault(";", 0);
        c.lawFault(" ;", 1);
    }

    private static void depth() {
        doc.terms("( and not within one another at most 6 deep.");
        c.lawFault("lay 1 if " + "(".repeat(6) + "fresh" + ")".repeat(6), NONE);
        c.lawFault("lay 1 if " + "(".repeat(7) + "fresh" + ")".repeat(7), 9 + 6);
        c.lawFault("lay 1 if " + "not ".repeat(6) + "fresh", NONE);
        c.lawFault("lay 1 if " + "not ".repeat(7) + "fresh", 9 + 24);
        c.lawFault("lay 1 if " + "not(".repeat(3) + "fresh" + ")".repeat(3), NONE);
        c.lawFault("lay 1 if " + "not(".repeat(3) + "not fresh" + ")".repeat(3), 9 + 12);
        c.lawFault("lay 1 if " + "not(".repeat(3) + "(fresh)" + ")".repeat(3), 9 + 12);
        c.lawFault("lay 1 if " + "(".repeat(6) + "fresh and not fresh" + ")".repeat(6), 9 + 6 + 10);
        String six = "not(".repeat(3) + "fresh" + ")".repeat(3);
        c.lawFault("lay 1 if " + six + " and " + six + " or " + six + ";wear 1 if " + six, NONE);
        c.lawFault("lay 1 if (" + six + ")", 10 + 11);
        LedgeEggs x = isle(at(1, 0, 1, 0, 1));
        due("six times not", laid(x, "not ".repeat(6) + "fresh"), 1);
        due("five times not", laid(x, "not ".repeat(5) + "fresh"), 0);
        due("three times not of six", laid(x, six), 0);
        String wide = "(1>2 or 1<2 and ";
        due("six deep, with much open", laid(x, wide.repeat(6) + "1+1+1<1+1+2" + ")".repeat(6)), 1);
        due("six deep, and wrong in the end", laid(x, wide.repeat(6) + "1+1+1>1+1+2" + ")".repeat(6)), 0);
    }

    private static void firstWrongByte() {
        doc.terms("The first wrong byte: the begin of the first thing that cannot stand there (a number of more digits, or out of its bounds; a word that is none;");
        c.isleFault("gale 1; gale 0101; egg", 13);
        c.isleFault("gale 1; gale 101; egg", 13);
        c.isleFault("gale 1; egg 0101", 8);
        c.isleFault("roof 1", 0);
        c.isleFault("ledge 1 eggs 1", 8);
        c.isleFault("ledge 1 2", 8);
        c.isleFault("rope 1 bear 1", 7);
        c.isleFault("gale 1 gale 1", 7);
        c.isleFault("gale 1, gale 1", 6);
        c.isleFault("lay 1", 0);
        c.isleFault("5", 0);
        c.lawFault("gale 1", 0);
        c.lawFault("5", 0);
        c.lawFault("lay 1 when fresh", 6);
        c.lawFault("lay 1 if eggs", 13);
        c.lawFault("lay 1 if eggs = 1", 14);
        c.lawFault("lay 1 if eggs and fresh", 14);
        c.lawFault("lay 1 if (eggs < 1;lay 1", 18);
        c.lawFault("lay 1 if fresh)", 14);
        c.lawFault("lay 1 if fresh < 1", 15);
        c.lawFault("lay 1 if eggs < fresh", 16);
        doc.terms("the ( or not that is a 7th one deep; of a LINE, a LEDGE, a HOLDER, a CLIMBER too many, the first word)");
        c.lawFault("lay 1 if ( ( ( ( ( ( ( egg", 9 + 12);
        c.lawFault("lay 1 if not not not not not not not egg", 9 + 24);
        c.isleFault(times(14, "gale 1") + ";gale 101", 98);
        c.isleFault(times(10, at(1, 1, 1, 1, 1)) + ";ledge 41", 270);
        c.isleFault(times(6, "holder 1") + "; holder 10", 55);
        c.isleFault(times(4, "climber 1") + "; climber 21", 41);
        doc.terms("or the text's length, if more must come.");
        String[] open = {"gale", "gale  ", "gale 1;", "gale 1 ;  ", "ledge 1", "ledge 1 roof", "ledge 1 roof 1 eggs", "ledge 1 roof 1 eggs 1 age 1",
            "ledge 1 roof 1 eggs 1 age 1 birds ", "rope 1", "rope 1 bears", "holder", "climber ", "stones"};
        for (String text : open) {
            c.isleFault(text, text.length());
        }
        String[] openLaws = {"lay", "lay 1;", "lay 1 if", "lay 1 if  ", "lay 1 if not", "lay 1 if (", "lay 1 if (fresh", "lay 1 if eggs", "lay 1 if eggs <",
            "lay 1 if eggs +", "lay 1 if fresh and", "lay 1 if fresh or  ", "lay 1 if 1"};
        for (String text : openLaws) {
            c.lawFault(text, text.length());
        }
    }

    private static void nothingStays() {
        doc.terms("Of a wrong text nothing stays.");
        LedgeEggs x = isle(at(9, 3, 9, 2, 9), "holder 9", "climber 1");
        law(x, "lay 1;swing 1");
        x.let(0, 0, 1);
        String ahead = Digest.of(x);
        Check.tell(x, at(1, 1, 1, 1, 1) + ";holder 1;climber 1;rope 1 bears 1;gale 100;stones 100;egg");
        refused("wrong in its last LINE", x::isle, ARGUMENT);
        due("all is as it was", Digest.of(x).replace("fault " + x.fault(), "fault -1"), ahead);
        x.let(0, 0, 0);
        due("nor are there STONES", x.count(12), 0);
        x.undo();
        Check.tell(x, "lay 9;wear 9;swing 9;egg");
        refused("wrong in its last LINE", x::law, ARGUMENT);
        due("THE LAW is as it was", Digest.of(x).replace("fault " + x.fault(), "fault -1"), ahead);
        due("a text was read behind it", Check.answer(x::isle), 2);
        due("LEDGES of the right texts alone", x.count(0), 1);
    }

    private static void isleAndLaw() {
        doc.promise(4, "Uses the TAPE up: a text of THE ISLE: how many there are. IllegalArgumentException: it is wrong; UnsupportedOperationException: there are 12.");
        LedgeEggs x = new LedgeEggs();
        Check.tell(x, "gale 1");
        due("the first text", x.isle(), 1);
        due("used up", x.end(1), false);
        Check.tell(x, "gale");
        refused("wrong", x::isle, ARGUMENT);
        due("used up by a wrong one, too", x.end(1), false);
        due("a wrong text is none of them", x.count(3), 1);
        for (int n = 2; n <= 12; n++) {
            due("text " + n, x.isle(), n);
        }
        Check.tell(x, "gale");
        refused("wrong, and there are 12", x::isle, ARGUMENT);
        Check.tell(x, "rope 1 bears 1");
        refused("right, but there are 12", x::isle, UNSUPPORTED);
        due("used up by that, too", x.end(1), false);
        due("nothing of it stays", x.count(7), 30);
        doc.promise(5, "Uses the TAPE up: THE LAW: how many LINES. IllegalArgumentException: the text is wrong.");
        Check.tell(x, "lay 1;wear 1");
        due("two LINES", x.law(), 2);
        due("used up by a law", x.end(1), false);
        Check.tell(x, "lay");
        refused("a wrong law", x::law, ARGUMENT);
        due("used up by a wrong law", x.end(1), false);
        due("laws are no texts of THE ISLE", x.count(3), 12);
    }

    private static void fault() {
        doc.promise(6, "The first wrong byte of the latest text that was read; NONE without one, and ahead of any.");
        LedgeEggs x = new LedgeEggs();
        due("ahead of any", x.fault(), NONE);
        Check.tell(x, "gale 1;x");
        due("fed, but not read", x.fault(), NONE);
        Check.answer(x::isle);
        due("the first wrong byte", x.fault(), 7);
        due("asked again", x.fault(), 7);
        Check.tell(x, "  x");
        due("still the latest that was read", x.fault(), 7);
        Check.answer(x::law);
        due("of a law", x.fault(), 2);
        x.law();
        due("a right law has none", x.fault(), NONE);
        Check.tell(x, "x");
        Check.answer(x::law);
        due("byte 0", x.fault(), 0);
        x.isle();
        due("a right text has none", x.fault(), NONE);
        Check.tell(x, " ".repeat(399) + "x");
        Check.answer(x::isle);
        due("the last byte of 400", x.fault(), 399);
        Check.tell(x, " ".repeat(396) + "gale");
        Check.answer(x::isle);
        due("the length of 400", x.fault(), 400);
    }
}
