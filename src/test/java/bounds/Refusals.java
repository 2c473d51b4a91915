import java.util.function.Function;

/** Every call that may be refused, by every exception that it names: which one comes of several, and that nothing has changed. */
final class Refusals extends Bound {
    private static final int[] NO_INDEX = {-1, 7, LEAST, MOST};
    private static final int[] NO_WIND = {-1, 10, LEAST, MOST};

    static void all() {
        doc.terms("Of several exceptions the one told first is thrown; a call that throws changes nothing but the TAPE, where it is used up.");
        doc.terms("IndexOutOfBoundsException: there is no such LEDGE, HOLDER, CLIMBER. IllegalArgumentException: a number is none.");
        asked();
        reckoned();
        looked();
        acts();
        texts();
        bareCliff();
    }

    /** A cliff on which all that can change has a value of its own: TAPE, fault, IMAGE, THE LOG, two ACTS to undo. */
    private static LedgeEggs rich() {
        LedgeEggs x = isle(at(9, 3, 9, 2, 9), at(20, 0, 7, 5, 4), at(31, 2, 3, 0, 1), at(1, 30, 5, 0, 5), "holder 9;holder 8", "climber 3;climber 20", "gale 7;stones 50");
        x.let(0, 0, 2);
        law(x, "lay 1 if not fresh;wear 2;swing 1 if wind > 4 and kick < 3");
        x.image();
        x.days(2);
        x.let(0, 1, 3);
        Check.tell(x, "gale 1;x");
        Check.answer(x::isle);
        Check.tell(x, "gale 3;holder 2");
        return x;
    }

    /** The same cliff twice, and the call on one of them alone: all that can be seen of both is the same. */
    private static void same(String what, Class<?> want, Function<LedgeEggs, Object> call) {
        LedgeEggs x = rich();
        LedgeEggs y = rich();
        refused(what, () -> call.apply(x), want);
        due(what + ": has changed", Digest.difference(Digest.whole(x), Digest.whole(y)), "nothing");
    }

    private static void asked() {
        for (int no : NO_INDEX) {
            same("ledge, no LEDGE", INDEX, x -> x.ledge(no, 0));
            same("ledge, no LEDGE ahead of another what", INDEX, x -> x.ledge(no, 8));
            same("holder, no HOLDER", INDEX, x -> x.holder(no, true));
            same("climber, no CLIMBER", INDEX, x -> x.climber(no, 0));
            same("climber, no CLIMBER ahead of another what", INDEX, x -> x.climber(no, 3));
            same("kicks, no LEDGE ahead of no WIND", INDEX, x -> x.kicks(no, 10));
            same("swing, no LEDGE ahead of no KICK", INDEX, x -> x.swing(no, 0, 10));
            same("load, no CLIMBER", INDEX, x -> x.load(no, 0));
            same("load, no LEDGE", INDEX, x -> x.load(0, no));
            same("held, no CLIMBER", INDEX, x -> x.held(no, 0, 1));
            same("held, no LEDGE", INDEX, x -> x.held(0, no, 1));
            same("led, no LEDGE", INDEX, x -> x.led(no, true));
        }
        same("ledge, another what", ELEMENT, x -> x.ledge(0, 8));
        same("climber, another what", ELEMENT, x -> x.climber(0, 3));
        same("log, another what", ELEMENT, x -> x.log(0, 6));
        same("log, another what of no row", ELEMENT, x -> x.log(77, -1));
        for (int no : NO_WIND) {
            same("kicks, no WIND", ARGUMENT, x -> x.kicks(0, no));
            same("swing, no WIND", ARGUMENT, x -> x.swing(0, 1, no));
            same("swing, no KICK", ARGUMENT, x -> x.swing(0, no == 10 ? 13 : no, 0));
            same("farthest, no WIND", ARGUMENT, x -> x.farthest(0, 1, no));
            same("lasts, no WIND", ARGUMENT, x -> x.lasts(0, no));
        }
        same("swing, KICK 0", ARGUMENT, x -> x.swing(0, 0, 0));
        same("farthest, KICKS 13", ARGUMENT, x -> x.farthest(0, 13, 0));
    }

    private static void reckoned() {
        for (int no : NO_INDEX) {
            same("lasts, no LEDGE ahead of no WIND", INDEX, x -> x.lasts(no, 10));
            same("enough, no CLIMBER", INDEX, x -> x.enough(no, 0));
            same("enough, no LEDGE", INDEX, x -> x.enough(0, no));
            same("shifts, no CLIMBER", INDEX, x -> x.shifts(no, 0));
            same("shifts, no LEDGE", INDEX, x -> x.shifts(0, no));
            same("farthest, no LEDGE ahead of no KICKS", INDEX, x -> x.farthest(no, 13, 10));
            same("calm, no LEDGE", INDEX, x -> x.calm(no));
            same("trips, no CLIMBER", INDEX, x -> x.trips(no, 0));
            same("trips, no LEDGE", INDEX, x -> x.trips(0, no));
            same("recovers, no CLIMBER", INDEX, x -> x.recovers(no, 0));
            same("recovers, no LEDGE", INDEX, x -> x.recovers(0, no));
        }
        for (int e : outside(0, 5)) {
            same("jerks, no E", ARGUMENT, x -> x.jerks(1, e));
            same("safe, no E", ARGUMENT, x -> x.safe(1, e));
            same("heard, no E", ARGUMENT, x -> x.heard(1, 1, e));
        }
        for (int n : outside(1, 12)) {
            same("jerks, no N", ARGUMENT, x -> x.jerks(n, 0));
            same("jerks, neither", ARGUMENT, x -> x.jerks(n, n));
        }
        for (int n : outside(0, 39)) {
            same("pairs, no N", ARGUMENT, x -> x.pairs(n));
        }
        for (int n : outside(0, 9999)) {
            same("share, no N", ARGUMENT, x -> x.share(n, true));
        }
    }

    private static void looked() {
        for (int no : NO_INDEX) {
            same("ahead, no LEDGE ahead of no N", INDEX, x -> x.ahead(no, 41, true));
            same("when, no LEDGE ahead of no EGGS", INDEX, x -> x.when(no, 0));
            same("late, no LEDGE", INDEX, x -> x.late(no));
        }
        for (int n : outside(0, 40)) {
            same("ahead, no N", ARGUMENT, x -> x.ahead(0, n, false));
            same("trial, no N", ARGUMENT, x -> x.trial(n, true));
            same("span, no N", ARGUMENT, x -> x.span(n, true));
        }
        for (int n : outside(1, 20)) {
            same("when, no EGGS", ARGUMENT, x -> x.when(0, n));
        }
        for (int n : outside(1, 10)) {
            same("harvest, no N", ARGUMENT, x -> x.harvest(n, NONE));
            same("loss, no N", ARGUMENT, x -> x.loss(n));
        }
        for (int n : outside(0, 90)) {
            same("leave, no N", ARGUMENT, x -> x.leave(n));
        }
    }

    private static void acts() {
        for (int no : NO_INDEX) {
            same("let, no CLIMBER ahead of all", INDEX, x -> x.let(no, 3, 21));
            same("let, no LEDGE ahead of no n", INDEX, x -> x.let(0, no, -1));
            same("clear, no LEDGE", INDEX, x -> x.clear(no));
            same("rest, no HOLDER", INDEX, x -> x.rest(no));
        }
        for (int n : outside(0, 20)) {
            same("let, no n", ARGUMENT, x -> x.let(0, 0, n));
            same("let, no n ahead of what cannot be", ARGUMENT, x -> x.let(1, 3, n));
        }
        same("let, too heavy", STATE, x -> x.let(1, 0, 1));
        same("let, too deep", STATE, x -> x.let(0, 2, 1));
        same("let, too many KICKS", STATE, x -> x.let(0, 3, 0));
        for (int n : outside(1, 60)) {
            same("days, no DAYS", ARGUMENT, x -> x.days(n));
        }
    }

    /** The TAPE is used up by a text, be it right or wrong: so the twin's TAPE is cut, too, and its fault() is known. */
    private static void usedUp(String what, String text, int fault, Function<LedgeEggs, Object> call) {
        LedgeEggs x = rich();
        LedgeEggs y = rich();
        x.end(0);
        y.end(0);
        Check.tell(x, text);
        refused(what, () -> call.apply(x), ARGUMENT);
        due(what + ": fault()", x.fault(), fault);
        String seen = Digest.whole(x).replace("fault " + fault + " ", "fault 7 ");
        due(what + ": has changed besides the TAPE", Digest.difference(seen, Digest.whole(y)), "nothing");
    }

    private static void texts() {
        LedgeEggs x = rich();
        due("rich() has a fault of its own", x.fault(), 7);
        due("and a TAPE", x.end(15), true);
        usedUp("isle, wrong", "egg 1", 0, LedgeEggs::isle);
        usedUp("isle, wrong behind right LINES", "rope 1 bears 1;holder 1;gale 100;egg", 33, LedgeEggs::isle);
        usedUp("isle, wrong at its end", "climber 1;rope 1 bears", 22, LedgeEggs::isle);
        usedUp("law, wrong", "egg 1", 0, LedgeEggs::law);
        usedUp("law, wrong behind right LINES", "lay 9;wear 9;swing 9 if fresh and", 33, LedgeEggs::law);
        LedgeEggs full = rich();
        LedgeEggs twin = rich();
        full.end(0);
        twin.end(0);
        for (int n = 2; n <= 12; n++) {
            due("text " + n, full.isle() + twin.isle(), 2 * n);
        }
        full.turn();
        twin.turn();
        Check.tell(full, "rope 1 bears 1;" + at(1, 1, 1, 1, 1) + ";gale 100");
        refused("isle, a 13th", full::isle, UNSUPPORTED);
        due("isle, a 13th: has changed besides the TAPE", Digest.difference(Digest.whole(full), Digest.whole(twin)), "nothing");
    }

    private static void bareCliff() {
        LedgeEggs x = new LedgeEggs();
        refused("ledge 0 of none", () -> x.ledge(0, 0), INDEX);
        refused("holder 0 of none", () -> x.holder(0, false), INDEX);
        refused("climber 0 of none", () -> x.climber(0, 0), INDEX);
        refused("let of none", () -> x.let(0, 0, -1), INDEX);
        refused("clear of none", () -> x.clear(0), INDEX);
        refused("rest of none", () -> x.rest(0), INDEX);
        LedgeEggs ledges = isle(at(1, 0, 0, 0, 0));
        refused("load without CLIMBERS", () -> ledges.load(0, 0), INDEX);
        refused("let without CLIMBERS", () -> ledges.let(0, 0, 0), INDEX);
        LedgeEggs climbers = isle("climber 1");
        refused("load without LEDGES", () -> climbers.load(0, 0), INDEX);
        refused("trips without LEDGES", () -> climbers.trips(0, 0), INDEX);
        due("ACTS on a bare cliff", x.turn() + x.days(60), 0);
        due("two of them", x.count(16), 2);
    }
}
