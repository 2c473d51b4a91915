/** Bounds of the ROPE, HOLDERS and CLIMBERS, and of signs (promises 25 to 32, 35 to 37, 43). */
final class BoundsOfMen extends Bound {
    static void all() {
        lasts();
        enough();
        shifts();
        who();
        farthest();
        calm();
        trips();
        recovers();
        lightest();
        jerks();
        safe();
        heard();
    }

    private static LedgeEggs rope(int bears) {
        return isle(at(1, 5, 0, 0, 0), at(1, 1, 0, 0, 0), at(1, 0, 0, 0, 0), at(40, 13, 0, 0, 0), at(40, 1, 0, 0, 0), "rope 9 bears " + bears, "holder 9", "climber 1");
    }

    private static void lasts() {
        doc.terms("ROPE: how many LETTINGS to a LEDGE by a WIND the ROPE does from now on, till FRAY is BEARS at least (each by KICKS and WEAR, all else as it is);");
        doc.promise(25, "ROPE: how many LETTINGS; NONE. IllegalArgumentException: the WIND is none.");
        due("9 by 5", rope(9).lasts(0, 0), 2);
        due("10 by 5", rope(10).lasts(0, 0), 2);
        due("11 by 5", rope(11).lasts(0, 0), 3);
        due("1 by 5", rope(1).lasts(0, 0), 1);
        LedgeEggs x = rope(11);
        x.let(0, 0, 0);
        due("from now on", x.lasts(0, 0), 2);
        x.let(0, 0, 0);
        due("FRAY 10 of 11", x.lasts(0, 0), 1);
        x.let(0, 1, 0);
        due("FRAY 11 of 11", x.lasts(0, 0), 0);
        due("nor does it the easiest one", x.lasts(2, 0), 0);
        due("LENGTH and HOLDERS are not asked", rope(9).lasts(4, 0), 9);
        law(x, "wear 2 if wind > 8");
        Check.tell(x, "rope 9 bears 15");
        x.isle();
        due("by WIND 0", x.lasts(0, 0), 3);
        due("by WIND 9: WEAR, too", x.lasts(0, 9), 3);
        due("by WIND 9 to the next", x.lasts(1, 9), 5);
        doc.terms("99, if it is 99 or more; none without KICKS.");
        due("98", rope(98).lasts(1, 0), 98);
        due("99", rope(99).lasts(1, 0), 99);
        due("100", rope(100).lasts(1, 0), 99);
        due("999", rope(999).lasts(1, 0), 99);
        due("no FRAY at all", rope(1).lasts(2, 0), 99);
        due("no KICKS", rope(999).lasts(3, 0), NONE);
        LedgeEggs y = rope(1);
        y.let(0, 0, 0);
        due("no KICKS by a ROPE not used any more", y.lasts(3, 0), NONE);
        for (int wind : outside(0, 9)) {
            refused("lasts by WIND " + wind, () -> y.lasts(0, wind), ARGUMENT);
        }
        for (int ledge : new int[] {-1, 5, LEAST, MOST}) {
            refused("lasts to " + ledge, () -> y.lasts(ledge, 0), INDEX);
        }
    }

    private static void enough() {
        doc.terms("ENOUGH: the fewest HOLDERS by whom a CLIMBER is HELD at a LEDGE: of several the least as bits; none.");
        doc.promise(26, "ENOUGH, as bits; NONE.");
        LedgeEggs x = isle(at(1, 0, 0, 0, 0), at(10, 0, 0, 0, 0), "holder 1;holder 2;holder 3;holder 3;holder 4;holder 4", "climber 4;climber 5;climber 17;climber 16");
        due("one, the least of two; not two that are less as bits", x.enough(0, 0), 0b010000);
        due("two: 2 + 3 is less as bits than 1 + 4", x.enough(1, 0), 0b000110);
        due("two: 3 + 3 is less as bits than 2 + 4", x.enough(1, 1), 0b001100);
        due("all six, just", x.enough(2, 0), 0b111111);
        due("one FATHOM by ten too deep", x.enough(2, 1), NONE);
        due("five of six", x.enough(3, 0), 0b111110);
        due("no HOLDERS", isle(at(1, 0, 0, 0, 0), "climber 1").enough(0, 0), NONE);
        due("one HOLDER", isle(at(1, 0, 0, 0, 0), "climber 1", "holder 1").enough(0, 0), 1);
        for (int n : new int[] {-1, 4, LEAST, MOST}) {
            refused("enough for CLIMBER " + n, () -> x.enough(n, 0), INDEX);
            refused("enough at LEDGE " + n, () -> x.enough(0, n), INDEX);
        }
    }

    private static void shifts() {
        doc.terms("SHIFTS: the most sets of HOLDERS, none in two of them, by each of which that is so.");
        doc.promise(27, "SHIFTS.");
        String six = "holder 1;holder 2;holder 3;holder 3;holder 4;holder 5";
        LedgeEggs x = isle(at(1, 0, 0, 0, 0), at(10, 0, 0, 0, 0), six, "climber 1;climber 6;climber 18;climber 5");
        due("six of one each", x.shifts(0, 0), 6);
        due("five of LOAD 2", x.shifts(0, 1), 5);
        due("18 in three of 6: 1 + 5, 2 + 4, 3 + 3", x.shifts(1, 0), 3);
        due("two of 7", x.shifts(1, 1), 2);
        due("all in one", x.shifts(2, 0), 1);
        due("all are too weak", x.shifts(2, 1), 0);
        due("three of 5, 3 are left", x.shifts(3, 0), 3);
        due("no HOLDERS", isle(at(1, 0, 0, 0, 0), "climber 1").shifts(0, 0), 0);
        for (int n : new int[] {-1, 4, LEAST, MOST}) {
            refused("shifts for CLIMBER " + n, () -> x.shifts(n, 0), INDEX);
            refused("shifts at LEDGE " + n, () -> x.shifts(0, n), INDEX);
        }
    }

    private static void who() {
        doc.terms("WHO: the CLIMBER who can be LET DOWN to the most LEDGES now (of several the one of the least WEIGHT, then the least; also if nobody can be to any); none without CLIMBERS.");
        doc.promise(28, "WHO; NONE.");
        due("none without CLIMBERS", isle(at(1, 0, 0, 0, 0), "holder 9").who(), NONE);
        due("none on a bare cliff", new LedgeEggs().who(), NONE);
        due("one alone, without LEDGES", isle("climber 20").who(), 0);
        due("nobody can: the least WEIGHT", isle(at(1, 0, 0, 0, 0), "climber 9;climber 5;climber 7").who(), 1);
        due("nobody can: the least of them", isle(at(1, 0, 0, 0, 0), "climber 9;climber 5;climber 5").who(), 1);
        due("the most LEDGES", isle(at(1, 0, 0, 0, 0), at(10, 0, 0, 0, 0), "holder 9", "climber 9;climber 8;climber 20").who(), 1);
        due("as many LEDGES: the least WEIGHT", isle(at(1, 0, 0, 0, 0), "holder 9", "climber 9;climber 8;climber 8").who(), 1);
        due("as many and as heavy: the least", isle(at(1, 0, 0, 0, 0), "holder 9", "climber 8;climber 8;climber 8;climber 8").who(), 0);
        due("the fourth", isle(at(1, 0, 0, 0, 0), "holder 1", "climber 3;climber 3;climber 2;climber 1").who(), 3);
    }

    private static void farthest() {
        doc.terms("FARTHEST: SWINGS of so many KICKS (0 to 12) to a LEDGE by a WIND together.");
        doc.promise(29, "FARTHEST. IllegalArgumentException: KICKS or the WIND are none.");
        LedgeEggs x = isle(at(1, 0, 0, 0, 0));
        due("0 KICKS", x.farthest(0, 0, 0), 0);
        due("12 KICKS without a law", x.farthest(0, 12, 9), 12);
        law(x, "swing 20 if kick > 11;swing 5 if kick < 2 and wind > 8");
        due("11 KICKS", x.farthest(0, 11, 0), 11);
        due("12 KICKS", x.farthest(0, 12, 0), 32);
        due("1 KICK by WIND 9", x.farthest(0, 1, 9), 6);
        law(x, times(12, "swing 20"));
        due("as far as can be", x.farthest(0, 12, 0), 12 * 241);
        for (int kicks : outside(0, 12)) {
            refused("farthest by KICKS " + kicks, () -> x.farthest(0, kicks, 0), ARGUMENT);
        }
        for (int wind : outside(0, 9)) {
            refused("farthest by WIND " + wind, () -> x.farthest(0, 0, wind), ARGUMENT);
        }
        for (int ledge : new int[] {-1, 1, LEAST, MOST}) {
            refused("farthest to " + ledge, () -> x.farthest(ledge, 0, 0), INDEX);
        }
    }

    private static void calm() {
        doc.terms("CALM: the WIND by which there are the fewest KICKS to a LEDGE (of several the least; none).");
        doc.promise(30, "CALM; NONE.");
        LedgeEggs x = isle(at(1, 12, 0, 0, 0), at(1, 13, 0, 0, 0), at(1, 0, 0, 0, 0));
        due("12 KICKS by any: the least", x.calm(0), 0);
        due("13 are none", x.calm(1), NONE);
        due("0 KICKS by any: the least", x.calm(2), 0);
        law(x, "swing 1 if wind > 8");
        due("by WIND 9 alone", x.calm(1), 9);
        law(x, "swing 1 if wind > 2;swing 1 if wind > 5;swing 1 if wind > 7");
        due("13 by 4 each is 4, from WIND 8 on", x.calm(1), 8);
        due("12 by 3 each is 4, by 4 each 3", x.calm(0), 8);
        for (int ledge : new int[] {-1, 3, LEAST, MOST}) {
            refused("calm of " + ledge, () -> x.calm(ledge), INDEX);
        }
    }

    private static void trips() {
        doc.terms("TRIPS: how often a CLIMBER could be LET DOWN to a LEDGE one time behind another now, taking nothing (FRAY, TIRED grow; 99 at most).");
        doc.promise(31, "TRIPS.");
        LedgeEggs x = isle(at(1, 0, 5, 0, 0), at(40, 0, 0, 0, 0), at(10, 5, 0, 0, 0), times(6, "holder 9"), "rope 30 bears 10", "climber 1;climber 20");
        due("till all are TIRED 9", x.trips(0, 0), 9);
        due("of WEIGHT 20: 54, 48, 42, 36, 30, 24", x.trips(1, 0), 6);
        due("too deep", x.trips(0, 1), 0);
        due("till FRAY is 10 of 10", x.trips(0, 2), 2);
        due("nothing is taken", x.ledge(0, 2), 5);
        due("nothing stays", x.count(8) + x.holder(0, true) + x.count(15) + x.count(16), 0);
        more(x, "rope 30 bears 11");
        due("till FRAY is 15 of 11", x.trips(0, 2), 3);
        lets(x, 8);
        due("one more", x.trips(0, 0), 1);
        lets(x, 1);
        due("no more", x.trips(0, 0), 0);
        law(x, "wear 1 if eggs > 0");
        more(x, "rope 30 bears 2");
        x.rest(0);
        due("EGGS stay where they are: WEAR each time", x.trips(0, 0), 2);
        LedgeEggs y = isle(at(1, 0, 1, 0, 0), "holder 9", "rope 30 bears 2", "climber 1");
        law(y, "wear 1 if eggs > 0");
        due("not even the last egg is taken", y.trips(0, 0), 2);
        for (int n : new int[] {-1, 3, LEAST, MOST}) {
            refused("trips of CLIMBER " + n, () -> x.trips(n, 0), INDEX);
            refused("trips to LEDGE " + n, () -> x.trips(0, n), INDEX);
        }
    }

    private static void recovers() {
        doc.terms("RECOVERS: in how many DAYS (0 to 5; TIRED 2 less each) a CLIMBER is HELD at a LEDGE by all HOLDERS; none.");
        doc.promise(32, "RECOVERS; NONE.");
        LedgeEggs x = isle(at(1, 0, 0, 0, 0), at(40, 0, 0, 0, 0), "holder 9", "climber 1;climber 9;climber 5");
        due("HELD now", x.recovers(1, 0), 0);
        due("too heavy there, ever", x.recovers(1, 1), NONE);
        lets(x, 9);
        due("1 of TIRED 9", x.recovers(0, 0), 1);
        due("5 of TIRED 9: 0, 2, 4, 6", x.recovers(2, 0), 3);
        due("9 of TIRED 9: 0, 2, 4, 6, 8, 9", x.recovers(1, 0), 5);
        due("nobody is less TIRED by that", x.holder(0, true), 9);
        due("no HOLDERS", isle(at(1, 0, 0, 0, 0), "climber 1").recovers(0, 0), NONE);
        LedgeEggs y = isle(at(1, 0, 0, 0, 0), "holder 9;holder 2", "climber 1;climber 10;climber 6");
        lets(y, 5);
        due("4 + 0, 6 + 0, 8 + 1, 9 + 2", y.recovers(1, 0), 3);
        due("one more TIRED than strong counts as 0", y.recovers(2, 0), 1);
        for (int n : new int[] {-1, 3, LEAST, MOST}) {
            refused("recovers for CLIMBER " + n, () -> x.recovers(n, 0), INDEX);
            refused("recovers at LEDGE " + n, () -> x.recovers(0, n), INDEX);
        }
    }

    private static void lightest() {
        doc.terms("LIGHTEST: the CLIMBER of the least WEIGHT (of several the least; none).");
        doc.promise(43, "LIGHTEST; NONE.");
        due("none", new LedgeEggs().lightest(), NONE);
        due("one", isle("climber 20").lightest(), 0);
        due("the fourth", isle("climber 20;climber 3;climber 2;climber 1").lightest(), 3);
        due("of several the least", isle("climber 20;climber 1;climber 2;climber 1").lightest(), 1);
    }

    private static void jerks() {
        doc.terms("signs are numbers of JERKS 1 to N (1 to 12), each may be heard as up to E more or fewer (0 to 5; 0 JERKS is no sign): the most signs of which no two can be heard alike.");
        doc.promise(35, "JERKS: the most signs. IllegalArgumentException: N or E are none.");
        LedgeEggs x = new LedgeEggs();
        for (int n = 1; n <= 12; n++) {
            for (int e = 0; e <= 5; e++) {
                due("JERKS of " + n + " by " + e, x.jerks(n, e), mostSigns(n, e));
            }
        }
        due("1 of 1", x.jerks(1, 5), 1);
        due("all of 12", x.jerks(12, 0), 12);
        due("1 and 12 by 5", x.jerks(12, 5), 2);
        due("1 to 11 by 5", x.jerks(11, 5), 1);
        for (int n : outside(1, 12)) {
            refused("JERKS of " + n, () -> x.jerks(n, 0), ARGUMENT);
        }
        for (int e : outside(0, 5)) {
            refused("JERKS by " + e, () -> x.jerks(1, e), ARGUMENT);
        }
    }

    /** By every set of signs and every number that can be heard. */
    private static int mostSigns(int n, int e) {
        int most = 0;
        for (int signs = 0; signs < 1 << n; signs++) {
            if (noTwoAlike(signs, e)) {
                most = Math.max(most, Integer.bitCount(signs));
            }
        }
        return most;
    }

    private static boolean noTwoAlike(int signs, int e) {
        for (int heard = -5; heard <= 17; heard++) {
            int by = 0;
            for (int sign = 1; sign <= 12; sign++) {
                by += (signs >> sign - 1) % 2 != 0 && Math.abs(sign - heard) <= e ? 1 : 0;
            }
            if (by > 1) {
                return false;
            }
        }
        return true;
    }

    private static void safe() {
        doc.terms("SAFE: told are signs as bits (bit 0: 1 JERK): whether no two can be heard alike by E.");
        doc.promise(36, "SAFE (bits above bit 11 count for nothing). IllegalArgumentException: E is none.");
        LedgeEggs x = new LedgeEggs();
        due("no sign", x.safe(0, 5), true);
        due("one sign", x.safe(1, 5), true);
        due("all by 0", x.safe(4095, 0), true);
        due("all by 1", x.safe(4095, 1), false);
        for (int e = 0; e <= 5; e++) {
            due("1 and " + (2 * e + 2) + " by " + e, x.safe(1 | 1 << 2 * e + 1, e), true);
            due("1 and " + (2 * e + 1) + " by " + e, e == 0 || !x.safe(1 | 1 << 2 * e, e), true);
        }
        due("bit 11 counts: 11 and 12 JERKS", x.safe(1 << 11 | 1 << 10, 1), false);
        due("bit 12 does not", x.safe(1 << 11 | 1 << 12, 1), true);
        due("nor do all above", x.safe(-4096, 5), true);
        due("nor the highest", x.safe(LEAST | 1, 5), true);
        due("the last two of three are alike", x.safe(1 | 1 << 5 | 1 << 7, 1), false);
        for (int e : outside(0, 5)) {
            refused("SAFE by " + e, () -> x.safe(0, e), ARGUMENT);
        }
    }

    private static void heard() {
        doc.terms("HEARD: JERKS heard and E: which of the told ones it can have been, as bits.");
        doc.promise(37, "HEARD, as bits. IllegalArgumentException: E is none.");
        LedgeEggs x = new LedgeEggs();
        due("just one by 0", x.heard(4095, 1, 0), 1);
        due("just the last by 0", x.heard(4095, 12, 0), 1 << 11);
        due("nothing told", x.heard(0, 5, 5), 0);
        due("0 heard by 0", x.heard(4095, 0, 0), 0);
        due("0 heard by 1", x.heard(4095, 0, 1), 1);
        due("0 heard by 5", x.heard(4095, 0, 5), 31);
        due("13 heard by 0", x.heard(-1, 13, 0), 0);
        due("13 heard by 1", x.heard(-1, 13, 1), 1 << 11);
        due("17 heard by 5", x.heard(-1, 17, 5), 1 << 11);
        due("18 heard by 5", x.heard(-1, 18, 5), 0);
        due("6 heard by 5: all up to 11", x.heard(-1, 6, 5), 2047);
        due("told ones alone", x.heard(0b101010, 4, 2), 0b101010);
        due("one beyond on both sides", x.heard(0b1000001, 4, 2), 0);
        due("bits above bit 11 are no sign", x.heard(-4096, 13, 5), 0);
        due("the least int", x.heard(-1, LEAST, 5), 0);
        for (int near = 0; near < 16; near++) {
            due("near the least int", x.heard(-1, LEAST + near, 5), 0);
            due("near the greatest int", x.heard(-1, MOST - near, 5), 0);
        }
        for (int e : outside(0, 5)) {
            refused("HEARD by " + e, () -> x.heard(1, 1, e), ARGUMENT);
        }
    }
}
