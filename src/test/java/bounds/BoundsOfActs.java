/** Bounds of what is read of the cliff and of the ACTS: "==== 2." of "Terms", and promises 7 to 18. */
final class BoundsOfActs extends Bound {
    static void all() {
        calls();
        ledge();
        holderAndClimber();
        kicks();
        swing();
        loadAndHeld();
        can();
        letTakes();
        letFrays();
        letTires();
        letHurts();
        clear();
        turnAndRest();
        wind();
        gale();
        laying();
        restOfADay();
        days();
        draws();
    }

    private static void calls() {
        doc.terms("An object is used for at most 512 calls after it has been made;");
        LedgeEggs x = new LedgeEggs();
        for (int call = 1; call < 512; call++) {
            due("call " + call, x.seed(call), call == 1 ? 1 : call - 1);
        }
        due("the 512th call", x.seed(0), 511);
    }

    private static void ledge() {
        doc.promise(7, "5 what it LAYS, 6 WINDS, as bits, 7 NEXT (NONE). NoSuchElementException: another what.");
        doc.promise(7, "Of a LEDGE what 0 FATHOM, 1 ROOF, 2 EGGS, 3 AGE, 4 BIRDS,");
        LedgeEggs x = isle(at(11, 22, 13, 14, 5), at(12, 13, 0, 0, 0));
        law(x, "lay 4;swing 20 if wind > 8;swing 1 if wind < 1");
        int[] want = {11, 22, 13, 14, 5, 4, 0b1000000001, 1};
        for (int what = 0; what < 8; what++) {
            due("what " + what, x.ledge(0, what), want[what]);
        }
        for (int what : outside(0, 7)) {
            refused("what " + what, () -> x.ledge(0, what), ELEMENT);
        }
        doc.terms("WINDS by which there are KICKS to a LEDGE, as bits (0 to 9).");
        due("by no WIND", isle(at(1, 13, 0, 0, 0)).ledge(0, 6), 0);
        due("by all ten", isle(at(1, 12, 0, 0, 0)).ledge(0, 6), 1023);
        doc.terms("NEXT to a LEDGE: the LEDGE whose FATHOM is nearest (of several the least; none).");
        due("none without another", isle(at(1, 0, 0, 0, 0)).ledge(0, 7), NONE);
        LedgeEggs y = isle(at(40, 0, 0, 0, 0), at(10, 0, 0, 0, 0), at(12, 0, 0, 0, 0), at(14, 0, 0, 0, 0), at(12, 0, 0, 0, 0), at(1, 0, 0, 0, 0));
        due("not itself, also if another is as deep", y.ledge(2, 7), 4);
        due("the one as deep", y.ledge(4, 7), 2);
        due("of several the least", y.ledge(1, 7), 2);
        due("the nearest upward", y.ledge(0, 7), 3);
        due("the nearest downward", y.ledge(5, 7), 1);
        LedgeEggs z = isle(at(10, 0, 0, 0, 0), at(12, 0, 0, 0, 0), at(14, 0, 0, 0, 0));
        due("one above and one below as near", z.ledge(1, 7), 0);
        due("39 FATHOMS away", isle(at(1, 0, 0, 0, 0), at(40, 0, 0, 0, 0)).ledge(0, 7), 1);
    }

    private static void holderAndClimber() {
        doc.promise(8, "Of a HOLDER STRENGTH (tired false), or TIRED.");
        LedgeEggs x = isle(at(1, 0, 9, 0, 0), at(31, 0, 9, 0, 0), "holder 9", "holder 1", "climber 7");
        for (int holder : new int[] {-1, 2, LEAST, MOST}) {
            refused("holder " + holder, () -> x.holder(holder, false), INDEX);
            refused("tired " + holder, () -> x.holder(holder, true), INDEX);
        }
        x.let(0, 0, 4);
        due("STRENGTH", x.holder(0, false), 9);
        due("TIRED", x.holder(0, true), 1);
        doc.promise(9, "Of a CLIMBER what 0 WEIGHT, 1 EGGS that one has, 2 CAN, as bits. NoSuchElementException: another what.");
        due("WEIGHT", x.climber(0, 0), 7);
        due("EGGS", x.climber(0, 1), 4);
        due("CAN", x.climber(0, 2), 1);
        for (int what : outside(0, 2)) {
            refused("what " + what, () -> x.climber(0, what), ELEMENT);
        }
        for (int climber : new int[] {-1, 1, LEAST, MOST}) {
            refused("climber " + climber, () -> x.climber(climber, 0), INDEX);
        }
    }

    private static void kicks() {
        doc.terms("KICKS to a LEDGE by a WIND: the fewest KICKS (0 to 12) whose SWINGS together are its ROOF at least; none.");
        doc.promise(10, "KICKS; NONE. IllegalArgumentException: the WIND is none.");
        LedgeEggs x = isle(at(1, 0, 0, 0, 0), at(1, 1, 0, 0, 0), at(1, 12, 0, 0, 0), at(1, 13, 0, 0, 0), at(1, 30, 0, 0, 0));
        int[] want = {0, 1, 12, NONE, NONE};
        for (int l = 0; l < 5; l++) {
            due("KICKS without a law to " + l, x.kicks(l, 0), want[l]);
        }
        law(x, "swing 18 if kick > 11");
        due("the twelfth KICK reaches just 30", x.kicks(4, 0), 12);
        law(x, "swing 17 if kick > 11");
        due("29 are too few", x.kicks(4, 0), NONE);
        law(x, "swing 20 if kick > 12");
        due("a 13th does not count", x.kicks(3, 0), NONE);
        law(x, "swing 20");
        due("one is enough for 12", x.kicks(2, 0), 1);
        due("two for 30", x.kicks(4, 0), 2);
        due("none is needed", x.kicks(0, 0), 0);
        law(x, "swing 20 if wind < 1;swing 11 if wind > 8");
        due("by WIND 0", x.kicks(4, 0), 2);
        due("by WIND 9", x.kicks(4, 9), 3);
        due("by WIND 1", x.kicks(4, 1), NONE);
        for (int wind : outside(0, 9)) {
            refused("by WIND " + wind, () -> x.kicks(0, wind), ARGUMENT);
        }
    }

    private static void swing() {
        doc.promise(11, "SWING of a KICK (1 to 12) by a WIND. IllegalArgumentException: the KICK or the WIND are none.");
        LedgeEggs x = isle(at(1, 0, 0, 0, 0));
        law(x, "swing 3 if kick < 2 and wind < 1;swing 7 if kick > 11 and wind > 8");
        due("the first by none", x.swing(0, 1, 0), 4);
        due("the twelfth by 9", x.swing(0, 12, 9), 8);
        for (int kick : outside(1, 12)) {
            refused("KICK " + kick, () -> x.swing(0, kick, 0), ARGUMENT);
        }
        for (int wind : outside(0, 9)) {
            refused("by WIND " + wind, () -> x.swing(0, 1, wind), ARGUMENT);
        }
    }

    private static void loadAndHeld() {
        doc.terms("LOAD of a CLIMBER at a LEDGE: WEIGHT and FATHOM by 10, rounded down.");
        doc.promise(12, "LOAD.");
        int[] fathoms = {1, 9, 10, 19, 20, 39, 40};
        int[] more = {0, 0, 1, 1, 2, 3, 4};
        for (int i = 0; i < fathoms.length; i++) {
            LedgeEggs x = isle(at(fathoms[i], 0, 0, 0, 0), "climber 1", "climber 20");
            due("LOAD of 1 at " + fathoms[i], x.load(0, 0), 1 + more[i]);
            due("LOAD of 20 at " + fathoms[i], x.load(1, 0), 20 + more[i]);
        }
        doc.terms("HELD by a set of HOLDERS: STRENGTH less TIRED of each (0 at least), together, is the LOAD at least.");
        doc.promise(13, "HELD.");
        LedgeEggs x = isle(at(9, 0, 0, 0, 0), at(10, 0, 0, 0, 0), "holder 9", "holder 1", "climber 7", "climber 8", "climber 1");
        due("by the first one alone", x.held(0, 0, 1), true);
        x.let(2, 0, 0);
        x.let(2, 0, 0);
        due("one who is more TIRED than strong takes nothing away", x.held(0, 0, 3), true);
        due("one too few", x.held(1, 0, 3), false);
        due("one FATHOM more is too deep", x.held(0, 1, 3), false);
        doc.terms("Sets are bits; of none they count for nothing.");
        due("the set of nobody", x.held(2, 0, 0), false);
        due("bits of no HOLDER", x.held(2, 0, -4), false);
        due("bits of no HOLDER besides", x.held(0, 0, -1), true);
        due("the highest bit alone", x.held(2, 0, LEAST), false);
        due("no HOLDERS at all", isle(at(1, 0, 0, 0, 0), "climber 1").held(0, 0, -1), false);
        for (int n : new int[] {-1, 3, LEAST, MOST}) {
            refused("load of CLIMBER " + n, () -> x.load(n, 0), INDEX);
            refused("load at LEDGE " + n, () -> x.load(0, n), INDEX);
            refused("held CLIMBER " + n, () -> x.held(n, 0, 1), INDEX);
            refused("held at LEDGE " + n, () -> x.held(0, n, 1), INDEX);
        }
    }

    /** Also by let itself, since CAN is what one may do. */
    private static void can(String what, LedgeEggs x, boolean want) {
        due("CAN: " + what, x.climber(0, 2), want ? 1 : 0);
        due("let: " + what, Check.answer(() -> x.let(0, 0, 0)), want ? (Object) 0 : "throws.IllegalStateException");
    }

    private static void can() {
        doc.terms("CAN: LEDGES to which a CLIMBER can be LET DOWN now, as bits.");
        doc.promise(14, "IllegalStateException: one CANNOT be.");
        doc.terms("IllegalStateException: it cannot be.");
        doc.terms("a CLIMBER to a LEDGE by all HOLDERS: LENGTH is FATHOM at least, HELD by all, there are KICKS by the WIND as it is, FRAY is below BEARS.");
        can("LENGTH is just FATHOM", isle(at(7, 0, 0, 0, 0), "rope 7 bears 9", "holder 9", "climber 1"), true);
        can("LENGTH is one less", isle(at(8, 0, 0, 0, 0), "rope 7 bears 9", "holder 9", "climber 1"), false);
        can("LENGTH 40 for FATHOM 40", isle(at(40, 0, 0, 0, 0), "rope 40 bears 9", "holder 9", "climber 1"), true);
        can("just HELD by all", isle(at(1, 0, 0, 0, 0), "holder 9;holder 9;holder 2", "climber 20"), true);
        can("one too weak", isle(at(1, 0, 0, 0, 0), "holder 9;holder 9;holder 1", "climber 20"), false);
        can("without HOLDERS", isle(at(1, 0, 0, 0, 0), "climber 1"), false);
        can("12 KICKS", isle(at(1, 12, 0, 0, 0), "holder 9", "climber 1"), true);
        can("13 are none", isle(at(1, 13, 0, 0, 0), "holder 9", "climber 1"), false);
        LedgeEggs x = isle(at(1, 13, 0, 0, 0), "holder 9", "climber 1", "gale 100");
        law(x, "swing 1 if wind > 8");
        can("KICKS by another WIND", x, false);
        x.days(1);
        can("KICKS by the WIND as it is", x, true);
        doc.terms("as FRAY is that at least, it is not used any more.");
        LedgeEggs y = isle(at(1, 9, 0, 0, 0), "rope 9 bears 10", "holder 9", "climber 1");
        y.let(0, 0, 0);
        due("FRAY 9", y.count(8), 9);
        can("FRAY 9 of 10", y, true);
        can("FRAY 18 of 10", y, false);
        LedgeEggs z = isle(at(1, 10, 0, 0, 0), "rope 9 bears 10", "holder 9", "climber 1");
        z.let(0, 0, 0);
        can("FRAY 10 of 10", z, false);
        can("a rope that BEARS 1", isle(at(1, 1, 0, 0, 0), "rope 1 bears 1", "holder 9", "climber 1"), true);
        LedgeEggs all = isle(times(10, at(1, 0, 0, 0, 0)), "holder 9", "climber 1");
        due("all ten LEDGES", all.climber(0, 2), 1023);
    }

    private static void letTakes() {
        doc.terms("One takes N EGGS (0 to 20; as many as there are, if these are fewer)");
        doc.promise(14, "LET DOWN: EGGS that were taken. IllegalArgumentException: n is none;");
        LedgeEggs x = isle(at(1, 0, 20, 3, 0), at(1, 0, 5, 4, 0), at(1, 0, 0, 0, 0), "rope 9 bears 999", "holder 9", "climber 1");
        for (int n : outside(0, 20)) {
            refused("n " + n, () -> x.let(0, 0, n), ARGUMENT);
        }
        due("none", x.let(0, 0, 0), 0);
        due("all are left", x.ledge(0, 2), 20);
        due("AGE stays", x.ledge(0, 3), 3);
        due("20", x.let(0, 0, 20), 20);
        due("none is left", x.ledge(0, 2), 0);
        due("4 of 5", x.let(0, 1, 4), 4);
        doc.terms("EGGS are less, STORE more, OLD too, if AGE is above 3; AGE is 0, if none is left.");
        due("one is left", x.ledge(1, 2), 1);
        due("its AGE is as it was", x.ledge(1, 3), 4);
        due("STORE", x.count(10), 24);
        due("AGE 3 is not OLD, AGE 4 is", x.count(11), 4);
        due("6 of 1", x.let(0, 1, 6), 1);
        due("AGE 0", x.ledge(1, 3), 0);
        due("STORE", x.count(10), 25);
        due("OLD", x.count(11), 5);
        due("20 of none", x.let(0, 2, 20), 0);
        due("STORE as it was", x.count(10), 25);
        due("as CLIMBERS have it", x.climber(0, 1), 25);
        doc.terms("STORE: EGGS taken; OLD: how many of them were not FRESH.");
        LedgeEggs y = isle(at(1, 0, 1, 99, 0), at(1, 0, 1, 0, 0), "holder 9", "climber 1");
        y.let(0, 0, 1);
        y.let(0, 1, 1);
        due("AGE 99 is OLD, AGE 0 is not", y.count(11), 1);
        due("both are in the STORE", y.count(10), 2);
        due("AGE is 0 at just as many as there are", y.ledge(0, 3), 0);
    }

    private static void letFrays() {
        doc.terms("FRAY is KICKS and WEAR more (999 at most; both by all as it was ahead of that)");
        LedgeEggs x = isle(at(1, 0, 0, 0, 0), at(1, 1, 0, 0, 0), "rope 9 bears 999", "holder 9", "climber 1");
        law(x, times(5, "wear 20"), "wear 11");
        for (int i = 1; i < 9; i++) {
            lets(x, 1);
            due("FRAY by 111", x.count(8), 111 * i);
            x.rest(0);
        }
        x.image();
        x.let(0, 0, 0);
        due("just 999", x.count(8), 999);
        refused("BEARS 999 at most", () -> x.let(0, 0, 0), STATE);
        x.back();
        x.let(0, 1, 0);
        due("1000 is 999", x.count(8), 999);
        x.back();
        law(x, times(5, "wear 20"), "wear 10");
        x.let(0, 0, 0);
        due("998", x.count(8), 998);
        x.rest(0);
        x.let(0, 0, 0);
        due("1108 is 999", x.count(8), 999);
        LedgeEggs y = isle(at(1, 12, 2, 4, 9), "holder 9", "climber 1");
        law(y, "swing 5 if eggs > 1;wear 3 if age > 3;wear 20 if eggs < 1");
        y.let(0, 0, 2);
        due("2 KICKS and WEAR 3, by the EGGS and AGE that were there", y.count(8), 5);
        due("2 KICKS in THE LOG", y.log(0, 4), 2);
        y.let(0, 0, 0);
        due("12 KICKS and WEAR 20 then", y.count(8), 37);
        LedgeEggs z = isle(at(1, 0, 2, 4, 9), "holder 9", "climber 1");
        z.let(0, 0, 0);
        due("no KICKS, no law: FRAY 0", z.count(8), 0);
    }

    private static void letTires() {
        doc.terms("TIRED of all HOLDERS 1 more (9 at most).");
        LedgeEggs x = isle(at(1, 0, 0, 0, 0), "holder 9;holder 1;holder 5", "climber 1");
        for (int i = 1; i <= 11; i++) {
            x.rest(0);
            x.let(0, 0, 0);
            due("the one who rests", x.holder(0, true), 1);
            due("TIRED", x.holder(1, true), Math.min(9, i));
            due("TIRED, too", x.holder(2, true), Math.min(9, i));
        }
    }

    private static void letHurts() {
        doc.terms("DRAW modulo 100 below STONES: HURT is 1 more.");
        doc.terms("HURT: how often one was, in all.");
        int[] stones = {0, 1, 1, 99, 99, 100, 50, 50};
        int[] drawn = {0, 0, 1, 98, 99, 99, 49, 50};
        for (int i = 0; i < stones.length; i++) {
            LedgeEggs x = isle(at(1, 0, 0, 0, 0), "holder 9", "climber 1", "stones " + stones[i]);
            int seed = seedWith(1, drawn[i]);
            x.seed(seed);
            x.let(0, 0, 0);
            due("HURT by " + drawn[i] + " of " + stones[i], x.count(12), drawn[i] < stones[i] ? 1 : 0);
            due("so THE LOG says", x.log(0, 5), x.count(12));
            due("one DRAW, also without STONES", x.seed(1), 1103515245 * seed + 12345);
        }
        LedgeEggs y = isle(at(1, 0, 0, 0, 0), "holder 9", "climber 1", "stones 100");
        lets(y, 9);
        due("HURT in all", y.count(12), 9);
    }

    private static void clear() {
        doc.terms("a LEDGE is CLEARED (its EGGS are thrown down: gone; AGE 0; BIRDS 1 less, 0 at least);");
        doc.promise(15, "CLEARED: EGGS that are gone.");
        LedgeEggs x = isle(at(1, 0, 20, 99, 2), at(1, 0, 1, 1, 9));
        due("20 are gone", x.clear(0), 20);
        due("EGGS, AGE, BIRDS", x.ledge(0, 2) + x.ledge(0, 3) * 100 + x.ledge(0, 4) * 1000, 1000);
        due("none is gone", x.clear(0), 0);
        due("BIRDS 0", x.ledge(0, 4), 0);
        due("and again", x.clear(0), 0);
        due("BIRDS 0 at least", x.ledge(0, 4), 0);
        due("the other LEDGE is as it was", x.ledge(1, 2) + x.ledge(1, 3) * 100 + x.ledge(1, 4) * 1000, 9101);
        due("nothing came into the STORE", x.count(10) + x.count(11) + x.count(15), 0);
        due("three ACTS", x.count(16), 3);
        for (int ledge : new int[] {-1, 2, LEAST, MOST}) {
            refused("clear " + ledge, () -> x.clear(ledge), INDEX);
        }
    }

    private static void turnAndRest() {
        doc.terms("the ROPE is turned (FRAY half, rounded down);");
        doc.promise(16, "The ROPE is turned: FRAY then.");
        LedgeEggs x = isle(at(1, 0, 0, 0, 0), "rope 9 bears 999", "holder 9", "climber 1");
        due("0 is 0", x.turn(), 0);
        law(x, times(12, "wear 20"));
        lets(x, 5);
        int[] halves = {499, 249, 124, 62, 31, 15, 7, 3, 1, 0, 0};
        for (int half : halves) {
            due("half of it", x.turn(), half);
            due("FRAY then", x.count(8), half);
        }
        doc.terms("a HOLDER rests (TIRED 0); DAYS.");
        doc.promise(17, "A HOLDER rests: TIRED that one was.");
        LedgeEggs y = isle(at(1, 0, 0, 0, 0), "holder 9;holder 1", "climber 1");
        due("not TIRED", y.rest(0), 0);
        lets(y, 9);
        due("TIRED 9", y.rest(1), 9);
        due("TIRED 0", y.holder(1, true), 0);
        due("the other is TIRED", y.holder(0, true), 9);
        for (int holder : new int[] {-1, 2, LEAST, MOST}) {
            refused("rest " + holder, () -> y.rest(holder), INDEX);
        }
    }

    private static void wind() {
        doc.terms("A DAY more: WIND is DRAW modulo 10;");
        for (int rest = 0; rest < 10; rest++) {
            int seed = 1;
            while (draw(seed, 1) % 10 != rest) {
                seed++;
            }
            LedgeEggs x = new LedgeEggs();
            x.seed(seed);
            x.days(1);
            due("WIND of SEED " + seed, x.count(6), rest);
        }
    }

    private static void gale() {
        doc.terms("if DRAW modulo 100 is below GALE: 9.");
        int[] gales = {0, 1, 1, 99, 99, 100, 50, 50};
        int[] drawn = {0, 0, 1, 98, 99, 99, 49, 50};
        for (int i = 0; i < gales.length; i++) {
            LedgeEggs x = isle("gale " + gales[i]);
            int seed = seedWith(2, drawn[i]);
            x.seed(seed);
            x.days(1);
            due("WIND by " + drawn[i] + " of " + gales[i], x.count(6), drawn[i] < gales[i] ? 9 : draw(seed, 1) % 10);
        }
        LedgeEggs y = new LedgeEggs();
        y.days(1);
        due("two DRAWS, also without a GALE", y.seed(1), 1103515245 * (1103515245 + 12345) + 12345);
    }

    private static void laying() {
        doc.terms("what it LAYS is told by all as it is then; if it has EGGS, AGE is 1 more (99 at most);");
        doc.terms("then so many come (20 EGGS at most; if it had none, AGE is 0).");
        LedgeEggs x = isle(at(1, 0, 18, 97, 1), at(1, 0, 19, 98, 9), at(1, 0, 20, 99, 9), at(1, 0, 0, 0, 9), at(1, 0, 1, 0, 0));
        law(x, "lay 2");
        int[][] eggs = {{19, 20, 20}, {20, 20, 20}, {20, 20, 20}, {2, 4, 6}, {1, 1, 1}};
        int[][] ages = {{98, 99, 99}, {99, 99, 99}, {99, 99, 99}, {0, 1, 2}, {1, 2, 3}};
        int[] came = {1 + 1 + 0 + 2, 1 + 2, 2};
        for (int day = 0; day < 3; day++) {
            due("came on day " + day, x.days(1), came[day]);
            for (int l = 0; l < 5; l++) {
                due("EGGS of " + l + " behind day " + day, x.ledge(l, 2), eggs[l][day]);
                due("AGE of " + l + " behind day " + day, x.ledge(l, 3), ages[l][day]);
            }
        }
        LedgeEggs still = isle(at(1, 0, 0, 0, 9));
        still.days(60);
        due("without EGGS no AGE", still.ledge(0, 3), 0);
        LedgeEggs y = isle(at(1, 0, 1, 3, 9), at(1, 0, 2, 0, 9), "gale 100");
        law(y, "lay 1 if fresh;lay 2 if day < 1;lay 3 if wind > 8;lay 5 if eggs > 2");
        due("by AGE, DAY and EGGS ahead of it, by the new WIND", y.days(1), 6 + 6);
        due("then AGE is 4 and 1, DAY 1, and EGGS are 7 and 8", y.days(1), 8 + 9);
    }

    private static void restOfADay() {
        doc.terms("TIRED of all HOLDERS is 2 less (0 at least).");
        LedgeEggs x = isle(at(1, 0, 0, 0, 0), "holder 9;holder 9", "climber 1");
        lets(x, 3);
        x.rest(1);
        lets(x, 2);
        int[] first = {3, 1, 0, 0};
        for (int day = 0; day < 4; day++) {
            x.days(1);
            due("TIRED 5 behind " + (day + 1) + " DAYS", x.holder(0, true), first[day]);
            due("TIRED 2 behind " + (day + 1) + " DAYS", x.holder(1, true), 0);
        }
        doc.terms("DAY is 1 more (9999 at most).");
        LedgeEggs y = new LedgeEggs();
        for (int i = 0; i < 166; i++) {
            y.days(60);
        }
        y.days(38);
        due("9998", y.count(5), 9998);
        y.days(1);
        due("9999", y.count(5), 9999);
        y.days(1);
        due("9999 at most", y.count(5), 9999);
        y.days(60);
        due("still", y.count(5), 9999);
    }

    private static void days() {
        doc.promise(18, "So many DAYS more (1 to 60): EGGS that were laid. IllegalArgumentException: they are none.");
        LedgeEggs x = isle(at(1, 0, 0, 0, 1));
        law(x, "lay 1 if day < 1 or day > 58");
        for (int n : outside(1, 60)) {
            refused("days(" + n + ")", () -> x.days(n), ARGUMENT);
        }
        due("one DAY", x.days(1), 1);
        x.undo();
        due("59 DAYS", x.days(59), 1);
        x.undo();
        due("60 DAYS", x.days(60), 2);
        due("DAY 60", x.count(5), 60);
    }

    private static void draws() {
        doc.terms("DRAW: SEED is 1103515245 times SEED and 12345, as an int that goes round; bits 16 to 30 (SEED 1 at first).");
        doc.promise(49, "SEED: what it was.");
        int[] seeds = {0, 1, 2, -1, LEAST, MOST, 65536, -65536, 123456789, -987654321};
        for (int seed : seeds) {
            LedgeEggs x = new LedgeEggs();
            due("SEED 1 at first", x.seed(seed), 1);
            for (int day = 0; day < 6; day++) {
                x.days(1);
                due("WIND of SEED " + seed + " on day " + day, x.count(6), draw(seed, 2 * day + 1) % 10);
            }
            due("TRIAL of it", x.trial(1, true), draw(seed, 13) % 10);
        }
        LedgeEggs y = new LedgeEggs();
        y.seed(MOST);
        due("what it was", y.seed(LEAST), MOST);
        due("the least int", y.seed(0), LEAST);
        due("0", y.seed(0), 0);
    }
}
