import java.util.Collections;
import java.util.NoSuchElementException;

/** Promises 7 to 53, reckoned by hand from the document: ordinary inputs, the edges it names, wrong inputs. */
public final class PromisesTest {
    private static final Class<?> INDEX = IndexOutOfBoundsException.class;
    private static final Class<?> ARGUMENT = IllegalArgumentException.class;
    private static final Class<?> STATE = IllegalStateException.class;
    private static final Class<?> ELEMENT = NoSuchElementException.class;
    private static final Check c = new Check();

    public static void main(String[] args) {
        ledge();
        holderAndClimber();
        kicksAndSwing();
        loadAndHeld();
        letTakes();
        letCannot();
        letFraysAndHurts();
        clearTurnRest();
        days();
        ahead();
        whenAndLate();
        harvestAndLoss();
        leave();
        lastsAndTrips();
        enoughAndShifts();
        whoAndLightest();
        farthestAndCalm();
        recovers();
        pairsAndRound();
        signs();
        splitShareRestsHow();
        trialAndSpan();
        theLog();
        undo();
        image();
        wrongInputs();
        c.end("PromisesTest");
    }

    private static String ledges(String... each) {
        return String.join(";", each);
    }

    private static String at(int fathom, int roof, int eggs, int age, int birds) {
        return "ledge " + fathom + " roof " + roof + " eggs " + eggs + " age " + age + " birds " + birds;
    }

    private static void ledge() {
        LedgeEggs x = Check.isle(ledges(at(20, 6, 3, 1, 5), at(24, 13, 0, 9, 0), at(16, 0, 1, 99, 9), at(40, 30, 20, 3, 1)));
        Check.law(x, "lay 4 if fresh;lay 2 if eggs < 2;swing 1 if wind > 3 and wind < 8");
        int[][] want = {{20, 6, 3, 1, 5, 4, 1023, 1}, {24, 13, 0, 0, 0, 0, 240, 0}, {16, 0, 1, 99, 9, 2, 1023, 0}, {40, 30, 20, 3, 1, 1, 0, 1}};
        for (int l = 0; l < 4; l++) {
            for (int what = 0; what < 8; what++) {
                c.due("ledge(" + l + ", " + what + ")", x.ledge(l, what), want[l][what]);
            }
        }
        c.dueThrow("ledge(0, 8)", () -> x.ledge(0, 8), ELEMENT);
        c.dueThrow("ledge(0, -1)", () -> x.ledge(0, -1), ELEMENT);
        c.dueThrow("ledge(4, 8): the one told first", () -> x.ledge(4, 8), INDEX);
        c.dueThrow("ledge(-1, 0)", () -> x.ledge(-1, 0), INDEX);
        c.due("next of one alone", Check.isle(at(1, 0, 0, 0, 0)).ledge(0, 7), -1);
    }

    private static void holderAndClimber() {
        LedgeEggs x = Check.isle(ledges(at(30, 12, 9, 0, 0), at(31, 0, 9, 0, 0), at(9, 13, 9, 0, 0), at(10, 0, 9, 9, 0)) + ";holder 9;holder 2;climber 8;climber 11");
        c.due("strength", x.holder(1, false), 2);
        c.due("tired", x.holder(1, true), 0);
        c.due("weight", x.climber(1, 0), 11);
        c.due("eggs of a climber at first", x.climber(1, 1), 0);
        c.due("can: not below the rope, not under the roof", x.climber(0, 2), 9);
        c.due("can: too heavy", x.climber(1, 2), 0);
        x.let(0, 3, 4);
        c.due("tired by a letting", x.holder(1, true), 1);
        c.due("strength is as it was", x.holder(1, false), 2);
        c.due("eggs of the climber", x.climber(0, 1), 4);
        c.due("can: the holders are tired", x.climber(0, 2), 8);
        c.dueThrow("climber(0, 3)", () -> x.climber(0, 3), ELEMENT);
        c.dueThrow("climber(0, -1)", () -> x.climber(0, -1), ELEMENT);
        c.dueThrow("climber(2, 3): the one told first", () -> x.climber(2, 3), INDEX);
        c.dueThrow("holder(2)", () -> x.holder(2, true), INDEX);
        c.dueThrow("holder(-1)", () -> x.holder(-1, false), INDEX);
    }

    private static void kicksAndSwing() {
        LedgeEggs x = Check.isle(ledges(at(20, 12, 3, 1, 5), at(24, 13, 0, 0, 0), at(5, 0, 0, 0, 0)));
        c.due("12 kicks without a law", x.kicks(0, 0), 12);
        c.due("13 are too many", x.kicks(1, 0), -1);
        c.due("none needed", x.kicks(2, 9), 0);
        Check.law(x, "swing 3 if kick > 1 and kick < 4; swing 20 if kick > 11;swing 2 if wind > 8");
        int[] swings = {1, 4, 4, 1, 1, 1, 1, 1, 1, 1, 1, 21};
        for (int kick = 1; kick <= 12; kick++) {
            c.due("swing of kick " + kick, x.swing(0, kick, 0), swings[kick - 1]);
        }
        c.due("swing by wind 9", x.swing(0, 2, 9), 6);
        c.due("kicks by swings", x.kicks(0, 0), 6);
        c.due("kicks by wind 9: 3, 6, 6", x.kicks(0, 9), 3);
        c.due("the twelfth kick is enough", x.kicks(1, 0), 7);
        c.dueThrow("kicks by wind 10", () -> x.kicks(0, 10), ARGUMENT);
        c.dueThrow("kicks by wind -1", () -> x.kicks(0, -1), ARGUMENT);
        c.dueThrow("kicks to no ledge by no wind", () -> x.kicks(3, 10), INDEX);
        c.dueThrow("swing of kick 0", () -> x.swing(0, 0, 0), ARGUMENT);
        c.dueThrow("swing of kick 13", () -> x.swing(0, 13, 0), ARGUMENT);
        c.dueThrow("swing by wind 10", () -> x.swing(0, 1, 10), ARGUMENT);
        c.dueThrow("swing by wind -1", () -> x.swing(0, 1, -1), ARGUMENT);
        c.dueThrow("swing of no ledge", () -> x.swing(-1, 0, 0), INDEX);
    }

    private static void loadAndHeld() {
        LedgeEggs x = Check.isle(ledges(at(9, 0, 0, 0, 0), at(10, 0, 0, 0, 0), at(39, 0, 0, 0, 0)) + ";holder 3;holder 4;holder 1;climber 5;climber 20");
        c.due("fathom 9 adds nothing", x.load(0, 0), 5);
        c.due("fathom 10 adds one", x.load(0, 1), 6);
        c.due("fathom 39 adds three", x.load(1, 2), 23);
        c.due("held by 3 + 1", x.held(0, 0, 5), false);
        c.due("held by 4 + 1, just", x.held(0, 0, 6), true);
        c.due("bits of none count for nothing", x.held(0, 0, 8 | 1), false);
        c.due("all bits", x.held(0, 2, -1), true);
        c.due("nobody", x.held(0, 0, 0), false);
        c.due("all are too few", x.held(1, 2, 7), false);
        c.dueThrow("load of no climber", () -> x.load(2, 0), INDEX);
        c.dueThrow("load at no ledge", () -> x.load(0, 3), INDEX);
        c.dueThrow("held of no climber", () -> x.held(-1, 0, 7), INDEX);
        c.dueThrow("held at no ledge", () -> x.held(0, -1, 7), INDEX);
    }

    private static void letTakes() {
        LedgeEggs x = Check.isle(ledges(at(9, 2, 7, 3, 2), at(9, 0, 6, 4, 2)) + ";holder 9;holder 9;climber 1;climber 2");
        c.due("takes n", x.let(0, 0, 5), 5);
        c.due("eggs are less", x.ledge(0, 2), 2);
        c.due("age stays while some are left", x.ledge(0, 3), 3);
        c.due("store", x.count(10), 5);
        c.due("age 3 is not old", x.count(11), 0);
        c.due("fray by kicks", x.count(8), 2);
        c.due("takes none", x.let(0, 0, 0), 0);
        c.due("takes as many as there are", x.let(1, 0, 20), 2);
        c.due("age is 0 if none is left", x.ledge(0, 3), 0);
        c.due("age 4 is old", x.let(1, 1, 4), 4);
        c.due("old", x.count(11), 4);
        c.due("store of all", x.count(10), 11);
        c.due("the first climber's", x.climber(0, 1), 5);
        c.due("the second climber's", x.climber(1, 1), 6);
        c.due("both holders are tired", x.holder(0, true) + x.holder(1, true), 8);
        c.due("on an empty ledge", x.let(0, 0, 20), 0);
        c.due("birds stay", x.count(14), 4);
        LedgeEggs y = Check.isle(at(9, 0, 7, 3, 2) + ";holder 9;holder 9;holder 1;climber 1");
        for (int i = 0; i < 8; i++) {
            y.let(0, 0, 0);
        }
        c.due("tired 8", y.holder(2, true), 8);
        y.let(0, 0, 0);
        c.due("tired 9", y.holder(2, true), 9);
        c.dueThrow("all are worn out", () -> y.let(0, 0, 0), STATE);
        Check.tell(y, "holder 9");
        y.isle();
        y.let(0, 0, 0);
        c.due("tired 9 at most", y.holder(2, true), 9);
    }

    private static void letCannot() {
        LedgeEggs x = Check.isle(ledges(at(30, 0, 7, 3, 2), at(31, 0, 7, 3, 2), at(1, 13, 7, 3, 2)) + ";holder 9;holder 9;climber 1;climber 16;climber 15");
        c.dueThrow("the rope is too short", () -> x.let(0, 1, 1), STATE);
        c.dueThrow("too many kicks", () -> x.let(0, 2, 1), STATE);
        c.dueThrow("not held: 16 + 3 of 18", () -> x.let(1, 0, 1), STATE);
        c.dueThrow("n 21", () -> x.let(0, 1, 21), ARGUMENT);
        c.dueThrow("n -1", () -> x.let(0, 1, -1), ARGUMENT);
        c.dueThrow("no climber, n -1", () -> x.let(3, 1, -1), INDEX);
        c.dueThrow("no ledge", () -> x.let(0, 3, 1), INDEX);
        c.due("nothing has changed", x.count(8) + x.count(10) + x.count(15) + x.count(16) + x.holder(0, true), 0);
        c.due("no draw was made", x.seed(1), 1);
        c.due("just held", x.let(2, 0, 7), 7);
        LedgeEggs y = Check.isle(at(9, 5, 7, 3, 2) + ";rope 9 bears 10;holder 9;climber 1");
        y.let(0, 0, 1);
        c.due("fray 5 of 10", y.let(0, 0, 1), 1);
        c.dueThrow("fray is 10 of 10", () -> y.let(0, 0, 1), STATE);
        c.due("turned", y.turn(), 5);
        c.due("it is used again", y.let(0, 0, 1), 1);
    }

    private static void letFraysAndHurts() {
        LedgeEggs x = Check.isle(at(9, 5, 7, 3, 2) + ";rope 9 bears 999;holder 9;climber 1;stones 100");
        Check.law(x, "wear 20 if eggs > 6;wear 3 if kick < 1 and wind < 1 ; wear 1 if kick > 0;swing 4 if eggs > 6");
        x.let(0, 0, 7);
        c.due("kicks and wear as it was ahead", x.count(8), 1 + 23);
        c.due("hurt for sure", x.count(12), 1);
        c.due("logged as hurt", x.log(0, 5), 1);
        c.due("seed is drawn once", x.seed(1), 1103527590);
        x.let(0, 0, 7);
        c.due("kicks and wear on an empty ledge", x.count(8), 24 + 5 + 3);
        c.due("twice hurt", x.count(12), 2);
        // DRAW of SEED 1: 1103527590 >> 16 is 16838, modulo 100 is 38
        LedgeEggs y = Check.isle(at(9, 0, 7, 3, 2) + ";holder 9;climber 1;stones 38");
        y.let(0, 0, 1);
        c.due("38 is not below 38", y.count(12), 0);
        LedgeEggs z = Check.isle(at(9, 0, 7, 3, 2) + ";holder 9;climber 1;stones 39");
        z.let(0, 0, 1);
        c.due("38 is below 39", z.count(12), 1);
        LedgeEggs w = Check.isle(at(9, 0, 7, 3, 2) + ";rope 9 bears 999;holder 9;climber 1");
        Check.law(w, String.join(";", Collections.nCopies(12, "wear 20")));
        for (int i = 0; i < 4; i++) {
            w.let(0, 0, 1);
        }
        c.due("fray 960", w.count(8), 960);
        w.let(0, 0, 1);
        c.due("fray 999 at most", w.count(8), 999);
    }

    private static void clearTurnRest() {
        LedgeEggs x = Check.isle(ledges(at(9, 7, 7, 3, 1), at(9, 0, 0, 0, 0)) + ";holder 9;holder 8;climber 1");
        c.due("eggs that are gone", x.clear(0), 7);
        c.due("no eggs", x.ledge(0, 2), 0);
        c.due("age 0", x.ledge(0, 3), 0);
        c.due("a bird less", x.ledge(0, 4), 0);
        c.due("nothing is gone", x.clear(0), 0);
        c.due("birds 0 at least", x.ledge(0, 4), 0);
        c.due("not in the store", x.count(10), 0);
        x.let(0, 0, 1);
        c.due("fray 7", x.count(8), 7);
        c.due("half, rounded down", x.turn(), 3);
        c.due("fray then", x.count(8), 3);
        c.due("again", x.turn(), 1);
        c.due("and again", x.turn(), 0);
        c.due("rests", x.rest(1), 1);
        c.due("is not tired", x.holder(1, true), 0);
        c.due("the other one is", x.holder(0, true), 1);
        c.due("rests again", x.rest(1), 0);
        c.due("all were acts", x.count(16), 8);
        c.dueThrow("clear(2)", () -> x.clear(2), INDEX);
        c.dueThrow("clear(-1)", () -> x.clear(-1), INDEX);
        c.dueThrow("rest(2)", () -> x.rest(2), INDEX);
        c.dueThrow("rest(-1)", () -> x.rest(-1), INDEX);
        c.due("what throws is no act", x.count(16), 8);
    }

    private static void days() {
        // DRAWS from SEED 1: 16838, 5758, 10113, 17515, 31051, 5627
        LedgeEggs x = Check.isle(ledges(at(9, 0, 7, 3, 4), at(9, 0, 0, 0, 3), at(9, 0, 19, 98, 9), at(9, 0, 0, 0, 0)) + ";holder 9;climber 1");
        Check.law(x, "lay 2 if wind > 7;lay 1 if wind > 2 and wind < 4;lay 7 if day > 1");
        x.let(0, 3, 0);
        x.let(0, 3, 0);
        x.let(0, 3, 0);
        x.seed(1);
        c.due("laid on the first day", x.days(1), 2 + 2 + 1 + 0);
        c.due("wind is a draw modulo 10", x.count(6), 8);
        c.due("day", x.count(5), 1);
        c.due("tired 2 less", x.holder(0, true), 1);
        c.due("eggs came", x.ledge(0, 2), 9);
        c.due("a day older", x.ledge(0, 3), 4);
        c.due("first eggs", x.ledge(1, 2), 2);
        c.due("are of age 0", x.ledge(1, 3), 0);
        c.due("20 at most", x.ledge(2, 2), 20);
        c.due("age 99", x.ledge(2, 3), 99);
        c.due("without birds none", x.ledge(3, 2), 0);
        c.due("laid on the second day", x.days(1), 1 + 1);
        c.due("wind of the third draw", x.count(6), 3);
        c.due("tired 0 at least", x.holder(0, true), 0);
        c.due("age 99 at most", x.ledge(2, 3), 99);
        c.due("wind of the third day is 1, day was 2", x.days(1), 4 + 3);
        c.due("wind of the fifth draw", x.count(6), 1);
        c.due("days of one call are one act", x.count(16), 6);
        LedgeEggs g = Check.isle("gale 58");
        g.days(1);
        c.due("58 is not below 58", g.count(6), 8);
        LedgeEggs h = Check.isle("gale 59");
        h.days(1);
        c.due("a gale", h.count(6), 9);
        c.due("60 days", h.days(60), 0);
        c.due("day 61", h.count(5), 61);
        for (int i = 0; i < 170; i++) {
            h.days(60);
        }
        c.due("day 9999 at most", h.count(5), 9999);
        c.dueThrow("days(0)", () -> h.days(0), ARGUMENT);
        c.dueThrow("days(61)", () -> h.days(61), ARGUMENT);
        c.dueThrow("days(-1)", () -> h.days(-1), ARGUMENT);
    }

    private static void ahead() {
        LedgeEggs x = Check.isle(ledges(at(9, 0, 18, 2, 4), at(9, 0, 0, 0, 3)));
        Check.law(x, "lay 1;lay 1 if day > 1;lay 9 if wind > 0");
        int[] eggs = {18, 19, 20, 20, 20};
        int[] less = {0, 1, 2, 4, 6};
        int[] age = {0, 0, 1, 2, 3};
        for (int n = 0; n < 5; n++) {
            c.due("eggs ahead " + n, x.ahead(0, n, false), eggs[n]);
            c.due("age ahead " + n, x.ahead(0, n, true), 2 + n);
            c.due("eggs of an empty ledge ahead " + n, x.ahead(1, n, false), less[n]);
            c.due("age of an empty ledge ahead " + n, x.ahead(1, n, true), age[n]);
        }
        c.due("40 ahead", x.ahead(0, 40, true), 42);
        c.due("nothing stays", x.ledge(0, 2), 18);
        c.due("the day stays", x.count(5), 0);
        c.due("no draws", x.seed(1), 1);
        c.due("fresh", x.fresh(), 1);
        x.days(2);
        c.due("none is fresh but the second", x.fresh(), 2);
        c.dueThrow("ahead by 41", () -> x.ahead(0, 41, false), ARGUMENT);
        c.dueThrow("ahead by -1", () -> x.ahead(0, -1, false), ARGUMENT);
        c.dueThrow("ahead of no ledge", () -> x.ahead(2, -1, false), INDEX);
    }

    private static void whenAndLate() {
        LedgeEggs x = Check.isle(ledges(at(9, 0, 0, 0, 4), at(9, 0, 5, 9, 9), at(9, 0, 2, 3, 9)));
        Check.law(x, "lay 2 if day > 5;lay 3 if age > 2 and fresh");
        c.due("when 1", x.when(0, 1), 7);
        c.due("when 2", x.when(0, 2), 7);
        c.due("when 8", x.when(0, 8), 10);
        c.due("9 are not fresh any more", x.when(0, 9), -1);
        c.due("too old from the start", x.when(1, 1), -1);
        c.due("now", x.when(2, 2), 0);
        c.due("three: too old by then", x.when(2, 3), -1);
        c.due("late", x.late(0), 11);
        c.due("late now", x.late(1), 0);
        c.due("late tomorrow", x.late(2), 1);
        Check.law(x, "lay 1 if day > 35");
        c.due("late by 41 is none", x.late(0), -1);
        c.due("when by 37", x.when(0, 1), 37);
        c.due("when by 40", x.when(0, 4), 40);
        Check.law(x, "lay 1 if day > 34");
        c.due("late by 40", x.late(0), 40);
        c.dueThrow("when 0", () -> x.when(0, 0), ARGUMENT);
        c.dueThrow("when 21", () -> x.when(0, 21), ARGUMENT);
        c.dueThrow("when of no ledge", () -> x.when(3, 0), INDEX);
        c.dueThrow("late of no ledge", () -> x.late(-1), INDEX);
    }

    private static void harvestAndLoss() {
        // worth by days: 5 5 0 0 0 0; 4 0 0 0 0 0; 0 5 10 15 20 0
        LedgeEggs x = Check.isle(ledges(at(9, 0, 5, 2, 0), at(9, 0, 4, 3, 0), at(9, 0, 0, 0, 5)));
        Check.law(x, "lay 5");
        int[] most = {5, 5 + 5, 4 + 5 + 10, 4 + 5 + 15, 4 + 5 + 20, 4 + 5 + 20};
        for (int n = 1; n <= 6; n++) {
            c.due("harvest of " + n, x.harvest(n, -1), most[n - 1]);
        }
        c.due("first day of 2", x.harvest(2, 0), 0);
        c.due("second day of 2", x.harvest(2, 1), 2);
        c.due("first day of 3", x.harvest(3, 0), 1);
        c.due("second day of 3", x.harvest(3, 1), 0);
        c.due("first day of 1", x.harvest(1, 0), 0);
        c.due("third day of 5", x.harvest(5, 2), -1);
        c.due("fifth day of 5", x.harvest(5, 4), 2);
        c.due("no such day", x.harvest(5, 5), -1);
        c.due("no such day", x.harvest(5, -2), -1);
        c.due("nobody is greedy alone", x.loss(1), 0);
        c.due("greedy of 2", x.loss(2), 0);
        c.due("greedy takes 5, then 5 of the third ledge too early", x.loss(3), 19 - 10);
        c.due("greedy of 5", x.loss(5), 29 - 10);
        LedgeEggs y = Check.isle(ledges(at(9, 0, 5, 0, 0), at(9, 0, 5, 0, 0), at(9, 0, 0, 0, 0)));
        c.due("none, if that can be", x.harvest(4, 3), 2);
        int[] plan = {-1, -1, 0, 1, -1};
        for (int k = 0; k < 5; k++) {
            c.due("the first way, day " + k, y.harvest(5, k), plan[k]);
        }
        c.due("a greedy one takes both", y.loss(5), 0);
        c.dueThrow("harvest(0)", () -> x.harvest(0, -1), ARGUMENT);
        c.dueThrow("harvest(11)", () -> x.harvest(11, -1), ARGUMENT);
        c.dueThrow("loss(0)", () -> x.loss(0), ARGUMENT);
        c.dueThrow("loss(11)", () -> x.loss(11), ARGUMENT);
        c.due("nothing stays", x.ledge(2, 2) + x.count(5), 0);
    }

    private static void leave() {
        LedgeEggs x = Check.isle(ledges(at(9, 0, 4, 0, 3), at(9, 0, 2, 0, 3), at(9, 0, 2, 0, 3), at(9, 0, 0, 0, 0)));
        c.due("leave 0", x.leave(0), 0);
        c.due("the least of two", x.leave(1), 2);
        c.due("leave 4", x.leave(4), 6);
        c.due("leave 9", x.leave(9), 7);
        c.due("leave 10", x.leave(10), -1);
        c.due("leave 90", x.leave(90), -1);
        c.dueThrow("leave(-1)", () -> x.leave(-1), ARGUMENT);
        c.dueThrow("leave(91)", () -> x.leave(91), ARGUMENT);
        String ten = String.join(";", Collections.nCopies(10, "ledge1roof1eggs1age1birds9"));
        c.due("90 birds", Check.isle(ten).leave(90), 1023);
    }

    private static void lastsAndTrips() {
        LedgeEggs x = Check.isle(ledges(at(9, 5, 1, 9, 9), at(9, 30, 1, 0, 0), at(39, 0, 1, 0, 0)) + ";rope 20 bears 20;holder 9;climber 1");
        Check.law(x, "swing 1 if wind > 5;wear 2 if wind > 5;wear 1 if eggs > 0;swing 9 if wind > 8");
        c.due("lasts by wind 0: 6 each", x.lasts(0, 0), 4);
        c.due("lasts by wind 6: 3 kicks, 3 wear", x.lasts(0, 6), 4);
        c.due("lasts by wind 9: 1 and 3", x.lasts(0, 9), 5);
        c.due("no kicks", x.lasts(1, 0), -1);
        c.due("kicks by wind 9", x.lasts(1, 9), 4);
        c.due("beyond the length: the rope does it all the same", x.lasts(2, 0), 20);
        c.due("trips to there", x.trips(0, 2), 0);
        c.due("trips by fray", x.trips(0, 0), 4);
        c.due("nothing stays", x.count(8) + x.holder(0, true) + x.count(15), 0);
        for (int i = 0; i < 4; i++) {
            x.let(0, 0, 0);
        }
        c.due("worn out", x.lasts(0, 0), 0);
        c.due("worn out, but no kicks", x.lasts(1, 0), -1);
        c.due("no trips", x.trips(0, 0), 0);
        Check.tell(x, "rope 20 bears 99");
        x.isle();
        Check.law(x, "wear 1");
        c.due("just 99", x.lasts(2, 3), 99);
        Check.tell(x, "rope 20 bears 98");
        x.isle();
        c.due("98", x.lasts(2, 3), 98);
        Check.tell(x, "rope 20 bears 999");
        x.isle();
        c.due("99 at most", x.lasts(2, 3), 99);
        c.due("trips: strength 9, tired 4", x.trips(0, 0), 5);
        c.dueThrow("lasts by wind 10", () -> x.lasts(0, 10), ARGUMENT);
        c.dueThrow("lasts to no ledge", () -> x.lasts(3, 10), INDEX);
        c.dueThrow("trips of no climber", () -> x.trips(1, 0), INDEX);
        c.dueThrow("trips to no ledge", () -> x.trips(0, -1), INDEX);
    }

    private static void enoughAndShifts() {
        LedgeEggs x = Check.isle(ledges(at(9, 0, 1, 0, 9), at(20, 0, 1, 0, 9)) + ";holder 2;holder 5;holder 3;holder 5;holder 1;holder 2;climber 5;climber 6;climber 16;climber 17");
        c.due("one is enough: the least", x.enough(0, 0), 2);
        c.due("two: 5 + 2 of the first", x.enough(0, 1), 3);
        c.due("two: 5 + 2", x.enough(1, 0), 3);
        c.due("5 + 3", x.enough(1, 1), 6);
        c.due("all", x.enough(2, 1), 63);
        c.due("too heavy", x.enough(3, 1), -1);
        c.due("shifts of 5: 5, 5, 3 + 2", x.shifts(0, 0), 3);
        c.due("shifts of 6: 5 + 1 is there once", x.shifts(1, 0), 2);
        c.due("shifts of 7: 18 in all", x.shifts(0, 1), 2);
        c.due("shifts of 18", x.shifts(2, 1), 1);
        c.due("shifts of 19", x.shifts(3, 1), 0);
        x.let(0, 0, 0);
        c.due("tired ones are weaker", x.enough(0, 0), 3);
        LedgeEggs y = Check.isle(at(9, 0, 1, 0, 9) + ";climber 1");
        c.due("no holders", y.enough(0, 0), -1);
        c.due("no shifts", y.shifts(0, 0), 0);
        c.dueThrow("enough for no climber", () -> x.enough(4, 0), INDEX);
        c.dueThrow("enough at no ledge", () -> x.enough(0, 2), INDEX);
        c.dueThrow("shifts for no climber", () -> x.shifts(-1, 0), INDEX);
        c.dueThrow("shifts at no ledge", () -> x.shifts(0, -1), INDEX);
    }

    private static void whoAndLightest() {
        LedgeEggs x = Check.isle(ledges(at(9, 0, 1, 0, 9), at(20, 0, 1, 0, 9)) + ";holder 9;climber 8;climber 7;climber 6;climber 6");
        c.due("who: the lightest of those who can to both", x.who(), 2);
        c.due("lightest", x.lightest(), 2);
        x.let(1, 0, 0);
        c.due("8 are left: the same", x.who(), 2);
        x.let(1, 0, 0);
        c.due("7 are left: one ledge each", x.who(), 2);
        x.let(1, 0, 0);
        x.let(2, 0, 0);
        c.due("nobody can be to any", x.who(), 2);
        LedgeEggs y = Check.isle(at(9, 0, 1, 0, 9) + ";holder 9;climber 3;climber 9");
        c.due("the lighter one", y.who(), 0);
        LedgeEggs z = Check.isle(at(9, 0, 1, 0, 9) + ";holder 9;climber 10;climber 9");
        c.due("the one who can", z.who(), 1);
        LedgeEggs w = Check.isle("climber 10;climber 10");
        c.due("without ledges", w.who(), 0);
        c.due("of several the least", w.lightest(), 0);
    }

    private static void farthestAndCalm() {
        LedgeEggs x = Check.isle(ledges(at(9, 30, 1, 0, 9), at(9, 12, 1, 0, 9), at(9, 0, 0, 0, 0)));
        c.due("calm: none", x.calm(0), -1);
        c.due("calm without a law", x.calm(1), 0);
        Check.law(x, "swing 2 if wind > 4;swing 1 if wind > 2 and kick > 1;swing 1 if wind > 7");
        c.due("farthest 0", x.farthest(0, 0, 9), 0);
        c.due("farthest 1", x.farthest(0, 1, 9), 4);
        c.due("farthest 12", x.farthest(0, 12, 9), 4 + 55);
        c.due("farthest 12 by wind 0", x.farthest(0, 12, 0), 12);
        c.due("farthest 3 by wind 3", x.farthest(0, 3, 3), 5);
        c.due("calm: 12 by wind 8, but 4 by 5 are fewer kicks", x.calm(0), 8);
        c.due("calm: 4 kicks by wind 5, 3 by wind 8", x.calm(1), 8);
        c.due("calm of a ledge without a roof", x.calm(2), 0);
        c.dueThrow("farthest 13", () -> x.farthest(0, 13, 0), ARGUMENT);
        c.dueThrow("farthest -1", () -> x.farthest(0, -1, 0), ARGUMENT);
        c.dueThrow("farthest by wind 10", () -> x.farthest(0, 1, 10), ARGUMENT);
        c.dueThrow("farthest to no ledge", () -> x.farthest(3, 13, 0), INDEX);
        c.dueThrow("calm of no ledge", () -> x.calm(3), INDEX);
    }

    private static void recovers() {
        LedgeEggs x = Check.isle(at(9, 0, 1, 0, 9) + ";holder 9;climber 1;climber 9;climber 8;climber 10");
        c.due("at once", x.recovers(1, 0), 0);
        c.due("never", x.recovers(3, 0), -1);
        for (int i = 0; i < 9; i++) {
            x.let(0, 0, 0);
        }
        c.due("tired 9", x.holder(0, true), 9);
        c.due("in five days", x.recovers(1, 0), 5);
        c.due("in four days", x.recovers(2, 0), 4);
        c.due("in one day", x.recovers(0, 0), 1);
        c.due("nothing stays", x.holder(0, true), 9);
        c.dueThrow("recovers for no climber", () -> x.recovers(4, 0), INDEX);
        c.dueThrow("recovers at no ledge", () -> x.recovers(0, 1), INDEX);
    }

    private static void pairsAndRound() {
        LedgeEggs x = Check.isle(ledges(at(1, 0, 1, 0, 9), at(40, 0, 1, 0, 9), at(30, 0, 1, 0, 9), at(1, 0, 1, 0, 9)));
        c.due("pairs 0", x.pairs(0), 1);
        c.due("pairs 9", x.pairs(9), 1);
        c.due("pairs 10", x.pairs(10), 2);
        c.due("pairs 38", x.pairs(38), 4);
        c.due("pairs 39", x.pairs(39), 6);
        c.due("round of none", x.round(0), 0);
        c.due("round of those that are none", x.round(-16), 0);
        c.due("round", x.round(5), 60);
        c.due("round with the deepest", x.round(7), -1);
        c.due("round, bits beyond", x.round(8 | 32), 2);
        c.due("of all", x.round(-1), -1);
        c.dueThrow("pairs(-1)", () -> x.pairs(-1), ARGUMENT);
        c.dueThrow("pairs(40)", () -> x.pairs(40), ARGUMENT);
    }

    private static void signs() {
        LedgeEggs x = new LedgeEggs();
        c.due("12 by 0", x.jerks(12, 0), 12);
        c.due("12 by 1", x.jerks(12, 1), 4);
        c.due("10 by 1", x.jerks(10, 1), 4);
        c.due("9 by 1", x.jerks(9, 1), 3);
        c.due("12 by 5", x.jerks(12, 5), 2);
        c.due("11 by 5", x.jerks(11, 5), 1);
        c.due("1 by 0", x.jerks(1, 0), 1);
        c.due("safe: 1 and 4 by 1", x.safe(9, 1), true);
        c.due("safe: 1 and 3 by 1", x.safe(5, 1), false);
        c.due("safe: 1 and 12 by 5", x.safe(1 | 1 << 11, 5), true);
        c.due("safe: 2 and 12 by 5", x.safe(2 | 1 << 11, 5), false);
        c.due("safe: bits above bit 11", x.safe(-4096 | 1, 5), true);
        c.due("safe: all by 0", x.safe(-1, 0), true);
        c.due("heard", x.heard(-1, 6, 2), 0b11111000);
        c.due("heard at the end", x.heard(-1, 12, 1), 0b110000000000);
        c.due("heard beyond the end", x.heard(-1, 15, 3), 0b100000000000);
        c.due("heard too many", x.heard(-1, 18, 5), 0);
        c.due("heard 0 by 0", x.heard(-1, 0, 0), 0);
        c.due("heard 0 by 2", x.heard(-1, 0, 2), 3);
        c.due("heard the least int", x.heard(-1, Integer.MIN_VALUE, 5), 0);
        c.due("heard the greatest int", x.heard(-1, Integer.MAX_VALUE, 5), 0);
        c.dueThrow("jerks of 0", () -> x.jerks(0, 0), ARGUMENT);
        c.dueThrow("jerks of 13", () -> x.jerks(13, 0), ARGUMENT);
        c.dueThrow("jerks by 6", () -> x.jerks(12, 6), ARGUMENT);
        c.dueThrow("jerks by -1", () -> x.jerks(12, -1), ARGUMENT);
        c.dueThrow("safe by 6", () -> x.safe(1, 6), ARGUMENT);
        c.dueThrow("safe by -1", () -> x.safe(1, -1), ARGUMENT);
        c.dueThrow("heard by 6", () -> x.heard(1, 1, 6), ARGUMENT);
        c.dueThrow("heard by -1", () -> x.heard(1, 1, -1), ARGUMENT);
    }

    private static void splitShareRestsHow() {
        LedgeEggs x = Check.isle(ledges(at(1, 0, 3, 0, 2), at(1, 0, 5, 0, 2), at(1, 0, 2, 0, 1), at(1, 0, 7, 0, 0)) + ";climber 1;holder 1;holder 1");
        c.due("split 17 by 1", x.split(false), 1);
        c.due("the least part: 3 + 5", x.split(true), 3);
        c.due("one share of 5", x.share(9999, false), 1999);
        c.due("the rope's", x.share(9999, true), 1999 + 4);
        c.due("share of 0", x.share(0, true), 0);
        c.due("share of 4", x.share(4, false), 0);
        c.due("the rope's of 4", x.share(4, true), 4);
        c.dueThrow("share(-1)", () -> x.share(-1, true), ARGUMENT);
        c.dueThrow("share(10000)", () -> x.share(10000, true), ARGUMENT);
        c.due("rests: 17 eggs, 5 birds", x.rests(), 1);
        c.due("how 10", x.how(10, false), 2);
        c.due("how 10: 3 + 5 + 2 or 3 + 7", x.how(10, true), 1);
        c.due("how 17", x.how(17, true), 15);
        c.due("how 0", x.how(0, false), 1);
        c.due("how 0 sure", x.how(0, true), 0);
        c.due("how -1", x.how(-1, false), 0);
        c.due("how 18", x.how(18, true), 0);
        c.due("rests: eggs 5, birds 5", Check.isle(at(1, 0, 5, 0, 5)).rests(), 9);
        c.due("rests: eggs 10, birds 5", Check.isle(at(1, 0, 10, 0, 5)).rests(), 9);
        c.due("rests: eggs 11, birds 5", Check.isle(at(1, 0, 11, 0, 5)).rests(), 1);
        c.due("rests: eggs 4, birds 5", Check.isle(at(1, 0, 4, 0, 5)).rests(), 8);
        c.due("rests: none of both", Check.isle(at(1, 0, 0, 0, 0)).rests(), 15);
        LedgeEggs y = Check.isle(ledges(at(1, 0, 0, 0, 0), at(1, 0, 4, 0, 0), at(1, 0, 4, 0, 0)));
        c.due("split even", y.split(false), 0);
        c.due("the least of these", y.split(true), 2);
        c.due("how 8: with and without the empty one", y.how(8, false), 2);
        c.due("how 8 sure", y.how(8, true), 6);
    }

    private static void trialAndSpan() {
        LedgeEggs x = Check.isle(ledges(at(9, 0, 3, 2, 9), at(9, 0, 0, 0, 9)) + ";holder 9;climber 1");
        Check.law(x, "lay 1 if wind > 4;lay 2 if wind < 2");
        c.due("trial 0", x.trial(0, false), 3);
        c.due("trial 0 wind", x.trial(0, true), 0);
        c.due("trial 1: wind 8", x.trial(1, false), 5);
        c.due("trial 1 wind", x.trial(1, true), 8);
        c.due("trial 2 wind", x.trial(2, true), 3);
        c.due("trial 2", x.trial(2, false), 5);
        c.due("trial 3 wind", x.trial(3, true), 1);
        c.due("trial 3", x.trial(3, false), 9);
        c.due("nothing stays", x.count(13) + x.count(5) + x.count(6), 3);
        c.due("nor a draw", x.seed(1), 1);
        c.due("days are as tried", x.days(3), 6);
        x.undo();
        // winds of SEED 1 to 6 on the first day: 8, 8, 7, 7, 5, 6 (DRAWS 16838, 908, 17747, 1817, 18655, 2726)
        Check.law(x, "lay 1 if wind > 6;lay 2 if wind < 6");
        x.seed(9);
        c.due("span 1 fewest: SEED 6", x.span(1, false), 3);
        c.due("span 1 most: SEED 5", x.span(1, true), 7);
        c.due("span 0", x.span(0, false), 3);
        c.due("span leaves the seed", x.seed(1), 9);
        // and on the second, by the third DRAW: 3, 9, 5, 1, 6, 2; the first ledge is old by then
        c.due("span 2 fewest: SEED 6 and 5", x.span(2, false), 2);
        c.due("span 2 most", x.span(2, true), 3);
        c.due("span 3: the second ledge's eggs are of age 2 at most", x.span(3, false) > 0, true);
        // winds of the third and fourth day: SEED 1 alone has 1, 0; SEED 2 alone has 9 on the second
        Check.law(x, "lay 3 if day > 1 and wind < 2");
        c.due("span 3 most: SEED 1 alone", x.span(3, true), 3);
        c.due("span 3 fewest", x.span(3, false), 0);
        Check.law(x, "lay 3 if day > 0 and wind > 8");
        c.due("span 2 most: SEED 2 alone", x.span(2, true), 3);
        c.dueThrow("trial(-1)", () -> x.trial(-1, true), ARGUMENT);
        c.dueThrow("trial(41)", () -> x.trial(41, true), ARGUMENT);
        c.dueThrow("span(-1)", () -> x.span(-1, true), ARGUMENT);
        c.dueThrow("span(41)", () -> x.span(41, true), ARGUMENT);
        c.due("trial 40", x.trial(40, true), trialByDays(x));
    }

    private static int trialByDays(LedgeEggs x) {
        x.days(40);
        int wind = x.count(6);
        x.undo();
        return wind;
    }

    private static void theLog() {
        LedgeEggs x = Check.isle(ledges(at(9, 3, 9, 2, 9), at(9, 0, 9, 0, 9)) + ";rope 9 bears 999;holder 9;climber 1;climber 2;climber 3");
        c.due("lucky without rows", x.lucky(), -1);
        x.let(2, 0, 4);
        x.days(1);
        x.let(1, 1, 4);
        int[] latest = {1, 1, 1, 4, 0, 0};
        int[] before = {0, 2, 0, 4, 3, 0};
        for (int what = 0; what < 6; what++) {
            c.due("log(0, " + what + ")", x.log(0, what), latest[what]);
            c.due("log(1, " + what + ")", x.log(1, what), before[what]);
            c.due("log(2, " + what + ")", x.log(2, what), -1);
        }
        c.due("log(-1)", x.log(-1, 0), -1);
        c.due("lucky: of several the least", x.lucky(), 1);
        x.let(2, 1, 1);
        c.due("lucky", x.lucky(), 2);
        c.due("led rows", x.led(1, false), 2);
        c.due("led eggs", x.led(1, true), 5);
        c.due("led rows of the first", x.led(0, false), 1);
        c.due("rows", x.count(15), 3);
        for (int i = 0; i < 58; i++) {
            x.rest(0);
            x.let(0, 1, i == 57 ? 1 : 0);
        }
        c.due("60 rows at most", x.count(15), 60);
        c.due("the first row is lost", x.led(0, false), 0);
        c.due("the last one", x.log(59, 1), 1);
        c.due("beyond", x.log(60, 1), -1);
        c.due("the store is not by the log", x.count(10), 10);
        c.due("lucky by the log alone", x.lucky(), 1);
        c.dueThrow("log(0, 6)", () -> x.log(0, 6), ELEMENT);
        c.dueThrow("log(99, -1)", () -> x.log(99, -1), ELEMENT);
        c.dueThrow("led of no ledge", () -> x.led(2, true), INDEX);
    }

    private static void undo() {
        LedgeEggs x = Check.isle(ledges(at(9, 3, 9, 2, 9), at(9, 0, 9, 0, 9)) + ";holder 9;climber 1;stones 100;gale 100");
        Check.law(x, "lay 1");
        c.due("nothing to undo", x.undo(), false);
        x.let(0, 0, 9);
        x.days(60);
        x.clear(1);
        x.turn();
        x.rest(0);
        c.due("five acts", x.count(16), 5);
        c.due("undo rest", x.undo(), true);
        x.undo();
        c.due("fray is back", x.count(8), 3);
        x.undo();
        c.due("eggs are back", x.ledge(1, 2), 20);
        c.due("birds are back", x.ledge(1, 4), 9);
        c.due("the wind of a gale", x.count(6), 9);
        x.seed(5);
        x.undo();
        c.due("the days are back", x.count(5), 0);
        c.due("the wind is back", x.count(6), 0);
        c.due("the seed is as ahead of them", x.seed(77), 1103527590);
        c.due("tired is back", x.holder(0, true), 1);
        x.undo();
        c.due("the letting is undone", x.count(15) + x.count(10) + x.count(12) + x.count(8) + x.climber(0, 1), 0);
        c.due("its eggs are back", x.ledge(0, 2), 9);
        c.due("its age is back", x.ledge(0, 3), 2);
        c.due("its draw is back", x.seed(1), 1);
        c.due("no more", x.undo(), false);
        for (int i = 0; i < 13; i++) {
            x.days(1);
        }
        c.due("12 are remembered", x.count(16), 12);
        for (int i = 0; i < 12; i++) {
            c.due("undo " + i, x.undo(), true);
        }
        c.due("the 13th is not", x.undo(), false);
        c.due("its day stays", x.count(5), 1);
        x.turn();
        Check.tell(x, "x");
        c.dueThrow("a wrong text", x::isle, ARGUMENT);
        Check.tell(x, "y");
        c.dueThrow("a wrong law", x::law, ARGUMENT);
        c.due("wrong texts leave what is remembered", x.count(16), 1);
        x.undo();
        c.due("fault is not undone", x.fault(), 0);
        x.turn();
        x.law();
        c.due("none are remembered behind a law", x.count(16), 0);
        x.turn();
        x.isle();
        c.due("none are remembered behind a text", x.undo(), false);
    }

    private static void image() {
        LedgeEggs x = Check.isle(at(9, 3, 9, 2, 9) + ";holder 9;climber 1");
        Check.law(x, "lay 1;wear 5");
        c.due("no image", x.back(), false);
        x.let(0, 0, 2);
        x.seed(12);
        x.image();
        c.due("an image leaves what is remembered", x.count(16), 1);
        x.days(3);
        Check.tell(x, "ledge 1 roof 0 eggs 0 age 0 birds 0;gale 9;rope 4 bears 4");
        x.isle();
        Check.law(x, "lay 2");
        Check.tell(x, "zz");
        c.dueThrow("wrong", x::isle, ARGUMENT);
        x.feed(0, 0, 0, 0, 0);
        x.turn();
        c.due("back", x.back(), true);
        c.due("the tape stays", x.feed(0, 0, 0, 0, 0), 40);
        c.due("fault stays", x.fault(), 0);
        c.due("ledges", x.count(0), 1);
        c.due("texts", x.count(3), 1);
        c.due("lines", x.count(4), 2);
        c.due("lays by the law then", x.ledge(0, 5), 1);
        c.due("day", x.count(5), 0);
        c.due("length", x.count(7), 30);
        c.due("fray", x.count(8), 8);
        c.due("store", x.count(10), 2);
        c.due("rows", x.count(15), 1);
        c.due("seed", x.seed(12), 12);
        c.due("none are remembered", x.count(16), 0);
        x.days(1);
        x.undo();
        x.clear(0);
        c.due("back again", x.back(), true);
        c.due("eggs again", x.ledge(0, 2), 7);
        x.clear(0);
        x.image();
        x.back();
        c.due("a new image in place of the old", x.ledge(0, 2), 0);
        x.turn();
        x.undo();
        c.due("undo leaves the image", x.back(), true);
    }

    private static void wrongInputs() {
        LedgeEggs x = new LedgeEggs();
        c.dueThrow("let on a bare cliff", () -> x.let(0, 0, 99), INDEX);
        c.dueThrow("clear on a bare cliff", () -> x.clear(0), INDEX);
        c.dueThrow("rest on a bare cliff", () -> x.rest(0), INDEX);
        c.dueThrow("ahead on a bare cliff", () -> x.ahead(0, 99, true), INDEX);
        c.dueThrow("led on a bare cliff", () -> x.led(0, true), INDEX);
        int[] far = {Integer.MIN_VALUE, -1, 10, Integer.MAX_VALUE};
        LedgeEggs y = Check.isle(at(9, 3, 9, 2, 9) + ";holder 9;climber 1");
        for (int n : far) {
            c.dueThrow("ledge " + n, () -> y.ledge(n, 0), INDEX);
            c.dueThrow("holder " + n, () -> y.holder(n, true), INDEX);
            c.dueThrow("climber " + n, () -> y.climber(n, 0), INDEX);
            c.dueThrow("wind " + n, () -> y.kicks(0, n), ARGUMENT);
            c.dueThrow("clear " + n, () -> y.clear(n), INDEX);
            c.due("log " + n, y.log(n, 0), -1);
            c.due("harvest " + n, n == -1 || y.harvest(3, n) == -1, true);
        }
        c.due("seed takes any int", y.seed(Integer.MIN_VALUE), 1);
        y.days(1);
        c.due("wind is never below 0", y.count(6) >= 0, true);
        c.due("bare days are acts", y.count(16), 1);
    }
}
