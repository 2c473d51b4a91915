import java.util.function.Consumer;

/** Bounds of THE LOG, of what is undone or gone back to, and of count (promises 46 to 53). */
final class BoundsOfPast extends Bound {
    static void all() {
        logRows();
        logIsFull();
        led();
        lucky();
        seed();
        undoIsFull();
        undoOfEach();
        undoLeaves();
        textsForget();
        image();
        backForgets();
        count();
    }

    private static LedgeEggs crew() {
        return isle(at(1, 2, 20, 4, 9), at(1, 0, 20, 0, 9), "rope 9 bears 999", "holder 9", "climber 1;climber 2", "stones 100");
    }

    private static void let(LedgeEggs x, int climber, int ledge, int n) {
        x.rest(0);
        x.let(climber, ledge, n);
    }

    private static void logRows() {
        doc.promise(48, "THE LOG so many ago (0 the latest) what 0 DAY, 1 the CLIMBER, 2 the LEDGE, 3 EGGS, 4 KICKS, 5 1 if HURT; NONE without. NoSuchElementException: another what.");
        LedgeEggs x = crew();
        for (int what = 0; what < 6; what++) {
            due("no row, what " + what, x.log(0, what), NONE);
        }
        x.let(1, 0, 5);
        x.days(3);
        x.let(0, 1, 20);
        int[] latest = {3, 0, 1, 20, 0, 1};
        int[] first = {0, 1, 0, 5, 2, 1};
        for (int what = 0; what < 6; what++) {
            due("the latest, what " + what, x.log(0, what), latest[what]);
            due("the one before, what " + what, x.log(1, what), first[what]);
            for (int ago : new int[] {2, 60, -1, LEAST, MOST}) {
                due("row " + ago + ", what " + what, x.log(ago, what), NONE);
            }
        }
        for (int what : outside(0, 5)) {
            refused("what " + what, () -> x.log(0, what), ELEMENT);
            refused("what " + what + " of no row", () -> x.log(9, what), ELEMENT);
        }
    }

    private static void logIsFull() {
        doc.terms("THE LOG: the latest 60 that were LET DOWN: DAY, the CLIMBER, the LEDGE, EGGS, KICKS, 1 if HURT.");
        LedgeEggs x = crew();
        for (int n = 1; n <= 63; n++) {
            let(x, n % 2, 1, n <= 3 ? n : 0);
            due("rows", x.count(15), Math.min(60, n));
            due("the latest", x.log(0, 1), n % 2);
            due("the oldest kept", x.log(Math.min(60, n) - 1, 3), n > 62 ? 0 : Math.max(1, n - 59) % 4);
            due("one beyond", x.log(Math.min(60, n), 3), NONE);
        }
        due("STORE is not by THE LOG", x.count(10), 6);
        due("EGGS of CLIMBERS neither", x.climber(1, 1), 4);
        due("HURT neither", x.count(12), 63);
        due("a CLIMBER who cannot be is no row", Check.answer(() -> lettingOfNobody(x)), 60);
    }

    private static int lettingOfNobody(LedgeEggs x) {
        Check.answer(() -> x.let(9, 0, 0));
        x.clear(0);
        x.turn();
        return x.count(15);
    }

    private static void led() {
        doc.promise(46, "LED: how many rows (eggs false), or EGGS.");
        doc.terms("LED: how many rows of THE LOG a LEDGE has; EGGS by them together.");
        LedgeEggs x = crew();
        due("no rows", x.led(0, false), 0);
        due("no EGGS", x.led(0, true), 0);
        let(x, 0, 0, 20);
        let(x, 1, 0, 20);
        let(x, 1, 1, 7);
        due("two rows, one of nothing", x.led(0, false), 2);
        due("20 EGGS", x.led(0, true), 20);
        due("one row", x.led(1, false), 1);
        due("7 EGGS", x.led(1, true), 7);
        for (int i = 0; i < 57; i++) {
            let(x, 0, 1, 0);
        }
        due("60 rows: the first is the oldest", x.led(0, true), 20);
        let(x, 0, 1, 0);
        due("its row is lost", x.led(0, false), 1);
        due("its EGGS are lost", x.led(0, true), 0);
        due("all others", x.led(1, false), 59);
        for (int ledge : new int[] {-1, 2, LEAST, MOST}) {
            refused("rows of " + ledge, () -> x.led(ledge, false), INDEX);
            refused("EGGS of " + ledge, () -> x.led(ledge, true), INDEX);
        }
    }

    private static void lucky() {
        doc.terms("LUCKY: the CLIMBER with the most EGGS by THE LOG (of several the least; none).");
        doc.promise(47, "LUCKY; NONE.");
        due("no CLIMBERS", new LedgeEggs().lucky(), NONE);
        LedgeEggs x = crew();
        due("no rows", x.lucky(), NONE);
        LedgeEggs y = crew();
        let(y, 1, 1, 1);
        due("one egg", y.lucky(), 1);
        let(x, 1, 1, 3);
        due("the only one", x.lucky(), 1);
        let(x, 0, 1, 2);
        due("one less", x.lucky(), 1);
        let(x, 0, 1, 1);
        due("of several the least", x.lucky(), 0);
        let(x, 1, 1, 1);
        due("one more", x.lucky(), 1);
        for (int i = 0; i < 57; i++) {
            let(x, 0, 0, 0);
        }
        due("by the latest 60 alone: 1 against 3", x.lucky(), 0);
    }

    private static void seed() {
        doc.terms("bits 16 to 30 (SEED 1 at first)");
        LedgeEggs x = new LedgeEggs();
        due("at first", x.seed(-5), 1);
        due("what it was", x.seed(5), -5);
        due("no ACT", x.count(16), 0);
    }

    private static void undoIsFull() {
        doc.terms("UNDONE: the latest ACT not undone yet (12 are remembered; DAYS of one call are one): all is as ahead of it (but for the TAPE, fault(), THE IMAGE).");
        doc.promise(50, "UNDONE: whether there was one.");
        LedgeEggs x = isle(at(1, 0, 0, 0, 0));
        due("nothing yet", x.undo(), false);
        for (int n = 1; n <= 14; n++) {
            x.days(n);
            due("remembered", x.count(16), Math.min(12, n));
        }
        int day = 105;
        for (int n = 14; n >= 3; n--) {
            due("DAY ahead of the undoing", x.count(5), day);
            due("one of them", x.undo(), true);
            day -= n;
            due("DAYS of one call are one", x.count(5), day);
            due("remembered still", x.count(16), n - 3);
        }
        due("the 13th latest is not", x.undo(), false);
        due("it stays", x.count(5), 3);
        x.days(5);
        due("one again", x.count(16), 1);
        due("it is undone", x.undo(), true);
        due("as ahead of it", x.count(5), 3);
        due("no more", x.undo(), false);
        for (int i = 0; i < 30; i++) {
            x.days(1);
            x.days(1);
            x.undo();
        }
        due("each time one of 12 was undone", x.count(16), 11);
        x.undo();
        due("the latest of them", x.count(5), 32);
    }

    private static void undoOfEach(String what, Consumer<LedgeEggs> act) {
        LedgeEggs x = crew();
        law(x, "lay 1;wear 3");
        x.let(0, 0, 3);
        String ahead = Digest.of(x);
        act.accept(x);
        String behind = Digest.of(x);
        due(what + " has changed something", behind.replace(" 2 fault", " 1 fault").equals(ahead), false);
        x.seed(99);
        due(what + " is undone", x.undo(), true);
        due(what + ": all is as ahead of it", Digest.difference(Digest.of(x), ahead), "nothing");
        act.accept(x);
        due(what + " is done again as before", Digest.difference(Digest.of(x), behind), "nothing");
    }

    private static void undoOfEach() {
        undoOfEach("a letting", x -> x.let(1, 0, 20));
        undoOfEach("clearing", x -> x.clear(1));
        undoOfEach("turning", LedgeEggs::turn);
        undoOfEach("resting", x -> x.rest(0));
        undoOfEach("60 DAYS", x -> x.days(60));
        LedgeEggs y = isle(at(1, 0, 0, 0, 0), "holder 1");
        y.clear(0);
        y.turn();
        y.rest(0);
        due("ACTS that change nothing are some, too", y.count(16), 3);
    }

    private static void undoLeaves() {
        LedgeEggs x = crew();
        x.turn();
        x.image();
        x.clear(0);
        Check.tell(x, "gale x");
        Check.answer(x::isle);
        x.feed(0, 0, 0, 0, 0);
        x.undo();
        due("fault() stays", x.fault(), 5);
        due("the TAPE stays", x.end(20), true);
        x.undo();
        due("THE IMAGE stays", x.back(), true);
    }

    private static void textsForget() {
        doc.terms("A text, going back: none are remembered.");
        LedgeEggs x = crew();
        x.turn();
        Check.tell(x, "x");
        Check.answer(x::isle);
        Check.tell(x, "x");
        Check.answer(x::law);
        due("a wrong text changes nothing", x.count(16), 1);
        x.isle();
        due("behind a text of THE ISLE, though empty", x.count(16), 0);
        due("nothing to undo", x.undo(), false);
        x.turn();
        x.law();
        due("behind THE LAW, though empty", x.count(16), 0);
        due("nothing to undo", x.undo(), false);
        x.turn();
        x.turn();
        due("two again", x.count(16), 2);
        LedgeEggs y = new LedgeEggs();
        for (int i = 0; i < 12; i++) {
            y.isle();
        }
        y.turn();
        Check.answer(y::isle);
        due("a 13th text changes nothing", y.count(16), 1);
    }

    private static void image() {
        doc.terms("THE IMAGE (one) of all may be kept, and gone back to (but for the TAPE, fault() and THE IMAGE itself).");
        doc.promise(51, "THE IMAGE is kept.");
        doc.promise(52, "One goes back to THE IMAGE: true; false, and nothing happens, if none was kept.");
        LedgeEggs x = crew();
        law(x, "lay 2;swing 1");
        x.let(0, 0, 3);
        x.let(1, 1, 3);
        String ahead = Digest.of(x);
        due("none was kept", x.back(), false);
        due("nothing happens", Digest.of(x), ahead);
        x.image();
        due("keeping it changes nothing", Digest.of(x), ahead);
        x.days(60);
        x.clear(0);
        x.rest(0);
        more(x, at(9, 9, 9, 9, 9), "holder 3;climber 3;rope 1 bears 1;gale 100;stones 0");
        law(x, "wear 9");
        x.seed(99);
        Check.tell(x, "gale x");
        Check.answer(x::isle);
        x.feed(0x67616c65, 0x20333020, 0x20202020, 0x20202020, 0x20202020);
        due("back", x.back(), true);
        due("all as it was, but for fault() and ACTS", Digest.of(x), ahead.replace(" 2 fault -1", " 0 fault 5"));
        due("the TAPE stays", x.end(20), true);
        due("a text of it", x.isle(), 2);
        due("back again", x.back(), true);
        due("the same", Digest.of(x), ahead.replace(" 2 fault -1", " 0 fault -1"));
        x.clear(1);
        x.image();
        x.clear(0);
        x.back();
        due("one IMAGE: the latest", x.ledge(1, 2), 0);
        due("not what came behind it", x.ledge(0, 2) > 0, true);
        LedgeEggs y = new LedgeEggs();
        y.image();
        more(y, "holder 1");
        law(y, "lay 1");
        due("back to a bare cliff", y.back(), true);
        due("no HOLDER", y.count(1), 0);
        due("no LAW", y.count(4), NONE);
    }

    private static void backForgets() {
        LedgeEggs x = crew();
        x.image();
        x.turn();
        x.turn();
        x.back();
        due("going back: none are remembered", x.count(16), 0);
        due("nothing to undo", x.undo(), false);
        x.turn();
        x.image();
        due("keeping it leaves them", x.count(16), 1);
        LedgeEggs y = crew();
        y.turn();
        due("no IMAGE", y.back(), false);
        due("then nothing is forgotten", y.count(16), 1);
    }

    private static void count() {
        doc.promise(53, "0 LEDGES, 1 HOLDERS, 2 CLIMBERS, 3 texts of THE ISLE, 4 LINES of THE LAW (NONE without one), 5 DAY, 6 WIND, 7 LENGTH, 8 FRAY, 9 what the ROPE BEARS, 10 STORE, 11 OLD, 12 HURT, 13 EGGS on all LEDGES, 14 BIRDS of all, 15 rows of THE LOG, 16 acts that can be UNDONE.");
        LedgeEggs x = isle(at(1, 2, 20, 4, 9), at(1, 0, 11, 0, 8), "rope 17 bears 199", "holder 9;holder 9;holder 9", "climber 1", "gale 100;stones 100");
        law(x, "wear 1;wear 2;wear 3;wear 4");
        x.days(7);
        x.let(0, 0, 6);
        x.let(0, 0, 7);
        x.isle();
        x.let(0, 1, 2);
        int[] want = {2, 3, 1, 2, 4, 7, 9, 17, 34, 199, 15, 15, 3, 16, 17, 3, 1};
        for (int what = 0; what < want.length; what++) {
            due("count(" + what + ")", x.count(what), want[what]);
        }
        doc.promise(53, "NONE for another what.");
        for (int what : outside(0, 16)) {
            due("count(" + what + ")", x.count(what), NONE);
        }
        LedgeEggs full = isle(times(10, at(1, 0, 20, 0, 9)));
        due("200 EGGS", full.count(13), 200);
        due("90 BIRDS", full.count(14), 90);
    }
}
