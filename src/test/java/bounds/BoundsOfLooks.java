/** Bounds of what will be on the LEDGES: AHEAD, FRESH, WHEN, LATE, HARVEST, LOSS, LEAVE, TRIAL, SPAN (promises 19 to 24, 33, 44, 45). */
final class BoundsOfLooks extends Bound {
    static void all() {
        ahead();
        aheadGoesOn();
        fresh();
        when();
        late();
        harvestDays();
        harvestWays();
        harvestFull();
        loss();
        leave();
        trial();
        span();
    }

    private static void ahead() {
        doc.terms("AHEAD by N DAYS (0 to 40): what all LEDGES have behind so many DAYS by the WIND as it is, without DRAWS (DAY goes on).");
        doc.promise(19, "AHEAD: EGGS (age false), or AGE. IllegalArgumentException: N is none.");
        LedgeEggs x = isle(at(1, 0, 1, 70, 9), at(1, 0, 19, 97, 9), at(1, 0, 0, 0, 9));
        law(x, "lay 1 if day > 38;lay 3 if wind > 0");
        due("0 is now", x.ahead(0, 0, false), 1);
        due("AGE now", x.ahead(0, 0, true), 70);
        due("by 39", x.ahead(0, 39, false), 1);
        due("by 40 the DAY was 39", x.ahead(0, 40, false), 2);
        due("AGE 99 at most", x.ahead(0, 40, true), 99);
        due("AGE by 29", x.ahead(0, 29, true), 99);
        due("AGE by 28", x.ahead(0, 28, true), 98);
        due("just 20 EGGS", x.ahead(1, 40, false), 20);
        due("the first egg has AGE 0", x.ahead(2, 40, true), 0);
        due("without EGGS no AGE", x.ahead(2, 39, true), 0);
        law(x, "lay 9");
        due("20 EGGS at most", x.ahead(1, 1, false), 20);
        due("20 EGGS at most by 40", x.ahead(2, 40, false), 20);
        for (int n : outside(0, 40)) {
            refused("AHEAD by " + n, () -> x.ahead(0, n, false), ARGUMENT);
            refused("AGE AHEAD by " + n, () -> x.ahead(0, n, true), ARGUMENT);
        }
        for (int ledge : new int[] {-1, 3, LEAST, MOST}) {
            refused("AHEAD of " + ledge, () -> x.ahead(ledge, 0, true), INDEX);
        }
    }

    private static void aheadGoesOn() {
        LedgeEggs x = isle(at(1, 0, 1, 0, 9), "gale 100");
        law(x, "lay 3 if wind > 8;lay 1 if wind < 1");
        due("by WIND 0 as it is", x.ahead(0, 2, false), 3);
        x.days(1);
        due("by WIND 9 as it is", x.ahead(0, 2, false), 10);
        due("asking leaves the DAY", x.count(5), 1);
        LedgeEggs y = isle(at(1, 0, 1, 0, 9));
        for (int i = 0; i < 166; i++) {
            y.days(60);
        }
        y.days(35);
        due("DAY 9995", y.count(5), 9995);
        String nines = "999+999+999+999+999+999+999+999+999+999";
        law(y, "lay 1 if day > " + nines + "+8");
        due("on DAY 9999, five times", y.ahead(0, 9, false), 6);
        law(y, "lay 1 if day > " + nines + "+9");
        due("never beyond DAY 9999", y.ahead(0, 40, false), 1);
    }

    private static void fresh() {
        doc.terms("FRESH: LEDGES with EGGS of AGE 3 at most, as bits.");
        doc.promise(20, "FRESH, as bits.");
        due("no LEDGE", new LedgeEggs().fresh(), 0);
        LedgeEggs x = isle(at(1, 0, 1, 3, 0), at(1, 0, 1, 4, 0), at(1, 0, 0, 0, 0), at(1, 0, 20, 0, 0), at(1, 0, 20, 99, 0));
        due("AGE 3, and AGE 0", x.fresh(), 0b1001);
        x.days(1);
        due("a DAY later", x.fresh(), 0b1000);
        x.days(3);
        due("AGE 4", x.fresh(), 0);
        due("all ten", isle(times(10, at(1, 0, 1, 3, 0)), "holder 1;climber 1").fresh(), 1023);
    }

    private static void when() {
        doc.terms("WHEN: the first N (0 to 40) AHEAD by which a LEDGE has so many EGGS (1 to 20) at least, and AGE is 3 at most;");
        doc.promise(21, "WHEN; NONE. IllegalArgumentException: so many are none.");
        LedgeEggs x = isle(at(1, 0, 0, 0, 9), at(1, 0, 20, 3, 9), at(1, 0, 20, 4, 9), at(1, 0, 1, 3, 9));
        law(x, "lay 1");
        int[] want = {1, 2, 3, 4, NONE, NONE};
        for (int eggs = 1; eggs <= 6; eggs++) {
            due("WHEN there are " + eggs, x.when(0, eggs), want[eggs - 1]);
        }
        due("20 of AGE 3 now", x.when(1, 20), 0);
        due("1 of 20 now", x.when(1, 1), 0);
        due("AGE 4", x.when(2, 1), NONE);
        due("just 1", x.when(3, 1), 0);
        due("2 come too late", x.when(3, 2), NONE);
        law(x, "lay 5 if day > 38");
        due("by 40", x.when(0, 5), 40);
        due("not 6", x.when(0, 6), NONE);
        law(x, "lay 5 if day > 39");
        due("by 41 is none", x.when(0, 1), NONE);
        law(x, "lay 9");
        due("20 of 27", x.when(0, 20), 3);
        for (int eggs : outside(1, 20)) {
            refused("WHEN there are " + eggs, () -> x.when(0, eggs), ARGUMENT);
        }
        for (int ledge : new int[] {-1, 4, LEAST, MOST}) {
            refused("WHEN of " + ledge, () -> x.when(ledge, 1), INDEX);
        }
    }

    private static void late() {
        doc.terms("LATE: by which it has EGGS and AGE is above 3; none.");
        doc.promise(22, "LATE; NONE.");
        LedgeEggs x = isle(at(1, 0, 1, 4, 9), at(1, 0, 1, 3, 9), at(1, 0, 1, 0, 9), at(1, 0, 0, 0, 9));
        due("AGE 4 now", x.late(0), 0);
        due("AGE 3 now", x.late(1), 1);
        due("AGE 0 now", x.late(2), 4);
        due("never", x.late(3), NONE);
        law(x, "lay 1 if day > 34");
        due("by 40", x.late(3), 40);
        law(x, "lay 1 if day > 35");
        due("by 41 is none", x.late(3), NONE);
        for (int ledge : new int[] {-1, 4, LEAST, MOST}) {
            refused("LATE of " + ledge, () -> x.late(ledge), INDEX);
        }
    }

    private static void way(String what, LedgeEggs x, int n, int... ledges) {
        for (int k = 0; k < n; k++) {
            due(what + ", DAY " + k + " of " + n, x.harvest(n, k), k < ledges.length ? ledges[k] : NONE);
        }
    }

    private static void harvestDays() {
        doc.terms("HARVEST for N DAYS (1 to 10), from today on: on each of them one LEDGE at most, each LEDGE once at most:");
        doc.promise(23, "HARVEST: how many (k NONE), or the LEDGE of the k-th DAY (from 0 on); NONE. IllegalArgumentException: N is none.");
        LedgeEggs x = isle(at(1, 0, 7, 0, 0), at(1, 0, 5, 0, 0), at(1, 0, 3, 0, 0));
        int[] most = {7, 12, 15, 15, 15, 15, 15, 15, 15, 15};
        for (int n = 1; n <= 10; n++) {
            due("one LEDGE a DAY, each once, of " + n, x.harvest(n, NONE), most[n - 1]);
        }
        for (int n : outside(1, 10)) {
            refused("HARVEST for " + n, () -> x.harvest(n, NONE), ARGUMENT);
            refused("a DAY of HARVEST for " + n, () -> x.harvest(n, 0), ARGUMENT);
        }
        way("today alone", x, 1, 0);
        for (int k : new int[] {-2, 3, 4, 10, LEAST, MOST}) {
            due("DAY " + k + " of 3", x.harvest(3, k), NONE);
        }
        due("DAY 2 of 3 is the last", x.harvest(3, 2), 2);
        due("no LEDGES", new LedgeEggs().harvest(10, NONE), 0);
        way("no LEDGES", new LedgeEggs(), 10);
        doc.terms("what it would have AHEAD by then, if AGE is 3 at most then, else nothing (nothing is taken ahead of it): the most EGGS:");
        LedgeEggs y = isle(at(1, 0, 5, 3, 0), at(1, 0, 9, 4, 0), at(1, 0, 0, 0, 5));
        due("AGE 3 today, AGE 4 is nothing", y.harvest(1, NONE), 5);
        way("the one of AGE 3", y, 1, 0);
        due("of AGE 4 tomorrow", y.harvest(2, NONE), 5);
        law(y, "lay 5");
        due("5 today, 5 first ones tomorrow", y.harvest(2, NONE), 10);
        due("20 of AGE 3 on DAY 4", y.harvest(5, NONE), 25);
        due("25 of AGE 4 would be nothing", y.harvest(10, NONE), 25);
        way("on DAY 4", y, 6, 0, NONE, NONE, NONE, 2);
    }

    private static void harvestWays() {
        doc.terms("the LEDGE of the k-th DAY in the first such way (none, if that can be, else the least LEDGE that can be, DAY by DAY).");
        LedgeEggs x = isle(at(1, 0, 5, 1, 0), at(1, 0, 5, 1, 0));
        way("none as long as that can be", x, 3, NONE, 0, 1);
        way("both are needed", x, 2, 0, 1);
        way("one of both", x, 1, 0);
        way("too old by DAY 3", x, 5, NONE, 0, 1, NONE, NONE);
        LedgeEggs y = isle(at(1, 0, 5, 0, 0), at(1, 0, 5, 3, 0), at(1, 0, 5, 0, 0));
        way("the one that cannot wait is first", y, 3, 1, 0, 2);
        due("all three", y.harvest(3, NONE), 15);
        LedgeEggs z = isle(at(1, 0, 0, 0, 0), at(1, 0, 0, 0, 0));
        way("a LEDGE worth 0 is none", z, 10);
        LedgeEggs w = isle(at(1, 0, 4, 3, 0), at(1, 0, 4, 3, 0), at(1, 0, 9, 3, 0));
        way("the most of today", w, 2, 2, NONE);
    }

    private static void harvestFull() {
        LedgeEggs x = isle(times(10, at(1, 0, 20, 0, 0)));
        int[] most = {20, 40, 60, 80, 80, 80, 80, 80, 80, 80};
        for (int n = 1; n <= 10; n++) {
            due("ten LEDGES of AGE 0 for " + n, x.harvest(n, NONE), most[n - 1]);
            due("a greedy one loses nothing", x.loss(n), 0);
        }
        way("four DAYS are good", x, 10, 0, 1, 2, 3);
        String early = times(4, at(40, 0, 5, 0, 5));
        LedgeEggs y = isle(early, at(3, 0, 0, 0, 5), at(4, 0, 0, 0, 5), at(5, 0, 0, 0, 5), at(6, 0, 0, 0, 5), at(7, 0, 0, 0, 5), at(8, 0, 0, 0, 5));
        law(y, "lay 5 if eggs < 1 and fathom < day + 1");
        due("ten LEDGES on ten DAYS", y.harvest(10, NONE), 50);
        way("each on its DAY", y, 10, 0, 1, 2, 3, 4, 5, 6, 7, 8, 9);
        due("nine DAYS", y.harvest(9, NONE), 45);
    }

    private static void loss() {
        doc.terms("LOSS for N DAYS (1 to 10): HARVEST less what comes, if on each DAY the LEDGE not taken yet that is worth the most that DAY is taken (of several the least; none that is worth 0).");
        doc.promise(33, "LOSS. IllegalArgumentException: N is none.");
        LedgeEggs x = isle(at(1, 0, 6, 0, 0), at(1, 0, 5, 3, 0));
        due("today alone", x.loss(1), 0);
        due("the one that cannot wait is lost", x.loss(2), 5);
        due("for 10", x.loss(10), 5);
        LedgeEggs y = isle(at(1, 0, 5, 0, 0), at(1, 0, 5, 3, 0));
        due("of several the least", y.loss(2), 5);
        LedgeEggs z = isle(at(1, 0, 5, 3, 0), at(1, 0, 5, 0, 0));
        due("of several the least, by luck", z.loss(2), 0);
        LedgeEggs w = isle(at(1, 0, 0, 0, 5));
        law(w, "lay 5 if day < 1");
        due("nothing is taken while it is worth 0", w.loss(2), 0);
        due("one that is worth 1 is taken", isle(at(1, 0, 1, 0, 0)).loss(1), 0);
        due("no LEDGES", new LedgeEggs().loss(10), 0);
        for (int n : outside(1, 10)) {
            refused("LOSS for " + n, () -> x.loss(n), ARGUMENT);
        }
    }

    private static void leave() {
        doc.terms("LEAVE: a set of LEDGES whose BIRDS together are N at least (0 to 90), with the fewest EGGS on them together: of several the least as bits; none.");
        doc.promise(24, "LEAVE, as bits; NONE. IllegalArgumentException: N is none.");
        LedgeEggs x = isle(at(1, 0, 5, 0, 4), at(1, 0, 2, 0, 3), at(1, 0, 2, 0, 3), at(1, 0, 0, 0, 1), at(1, 0, 9, 0, 9));
        due("0 BIRDS need none", x.leave(0), 0);
        due("1 BIRD without EGGS", x.leave(1), 0b1000);
        due("3 BIRDS: the least of two", x.leave(3), 0b0010);
        due("just 4", x.leave(4), 0b1010);
        due("5: 4 EGGS", x.leave(5), 0b0110);
        due("all 20", x.leave(20), 0b11111);
        due("21 are not there", x.leave(21), NONE);
        LedgeEggs full = isle(times(10, at(1, 0, 20, 0, 9)));
        due("90 of ten LEDGES", full.leave(90), 1023);
        due("81 of ten LEDGES", full.leave(81), 511);
        due("82 of ten LEDGES", full.leave(82), 1023);
        due("0 of no LEDGE", new LedgeEggs().leave(0), 0);
        due("1 of no LEDGE", new LedgeEggs().leave(1), NONE);
        due("a LEDGE without BIRDS and EGGS is left out", isle(at(1, 0, 0, 0, 0), at(1, 0, 1, 0, 1)).leave(1), 2);
        for (int n : outside(0, 90)) {
            refused("LEAVE " + n, () -> full.leave(n), ARGUMENT);
        }
    }

    private static void trial() {
        doc.terms("TRIAL of N DAYS (0 to 40) from now (draws, too; nothing stays): EGGS on all LEDGES then; WIND then.");
        doc.promise(44, "TRIAL: EGGS (wind false), or WIND. IllegalArgumentException: N is none.");
        LedgeEggs x = isle(at(1, 0, 2, 0, 9), at(1, 0, 3, 99, 9), "gale 100", "holder 9", "climber 1");
        law(x, "lay 1 if day > 38");
        x.let(0, 0, 0);
        String ahead = Digest.of(x);
        due("0 is now", x.trial(0, false), 5);
        due("WIND now", x.trial(0, true), 0);
        due("WIND by a gale", x.trial(1, true), 9);
        due("39 DAYS", x.trial(39, false), 5);
        due("40 DAYS", x.trial(40, false), 7);
        due("nothing stays", Digest.of(x), ahead);
        LedgeEggs y = isle(times(10, at(1, 0, 19, 0, 9)));
        law(y, "lay 9");
        due("200 EGGS at most", y.trial(40, false), 200);
        due("without LEDGES", new LedgeEggs().trial(40, false), 0);
        for (int n : outside(0, 40)) {
            refused("TRIAL of " + n, () -> x.trial(n, false), ARGUMENT);
            refused("WIND of TRIAL of " + n, () -> x.trial(n, true), ARGUMENT);
        }
    }

    private static void span() {
        doc.terms("SPAN: the fewest and the most such EGGS of AGE 3 at most from SEED 1, 2, .. 6.");
        doc.promise(45, "SPAN: the fewest (most false), or the most. IllegalArgumentException: N is none.");
        LedgeEggs x = isle(at(1, 0, 5, 3, 0), at(1, 0, 9, 4, 0), at(1, 0, 0, 0, 0));
        due("AGE 3, not AGE 4", x.span(0, false), 5);
        due("the most of them", x.span(0, true), 5);
        due("a DAY later", x.span(1, true), 0);
        LedgeEggs y = isle(at(1, 0, 0, 0, 9));
        // WINDS of the first DAY from SEED 0 to 7: 0, 8, 8, 7, 7, 5, 6, 4
        int[] winds = {0, 8, 8, 7, 7, 5, 6, 4};
        for (int seed = 0; seed < 8; seed++) {
            due("WIND of SEED " + seed, draw(seed, 1) % 10, winds[seed]);
        }
        law(y, "lay 1 if wind < 5");
        due("SEED 0 and SEED 7 are not asked", y.span(1, true), 0);
        law(y, "lay 1 if wind > 4");
        due("nor for the fewest", y.span(1, false), 1);
        law(y, "lay 1 if wind > 5 and wind < 7");
        due("SEED 6 is asked", y.span(1, true), 1);
        law(y, "lay 1 if wind < 6 or wind > 6");
        due("SEED 6 is asked for the fewest", y.span(1, false), 0);
        spanOfEachSeed();
        y.seed(77);
        y.span(40, true);
        due("SEED stays", y.seed(1), 77);
        due("the DAY stays", y.count(5), 0);
        due("without LEDGES", new LedgeEggs().span(40, true), 0);
        for (int n : outside(0, 40)) {
            refused("SPAN of " + n, () -> x.span(n, false), ARGUMENT);
        }
        law(y, "lay 1 if day > 38");
        due("39 DAYS", y.span(39, true), 0);
        due("40 DAYS", y.span(40, false), 1);
    }

    /** By two DAYS, as the six SEEDS have six WINDS on the second one. */
    private static void spanOfEachSeed() {
        LedgeEggs x = isle(at(1, 0, 0, 0, 9));
        int[] winds = {3, 9, 5, 1, 6, 2};
        for (int seed = 1; seed <= 6; seed++) {
            int wind = winds[seed - 1];
            due("WIND of SEED " + seed + " on DAY 1", draw(seed, 3) % 10, wind);
            law(x, "lay 1 if day > 0 and wind + 1 > " + wind + " and wind < " + (wind + 1));
            due("SEED " + seed + " is asked", x.span(2, true), 1);
            due("it is not alone", x.span(2, false), 0);
            law(x, "lay 1 if day > 0 and (wind < " + wind + " or wind > " + wind + ")");
            due("SEED " + seed + " is asked for the fewest", x.span(2, false), 0);
        }
    }
}
