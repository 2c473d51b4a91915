/** Bounds of FATHOMS, sets and shares (promises 34, 38 to 42). */
final class BoundsOfSets extends Bound {
    static void all() {
        pairs();
        round();
        split();
        share();
        rests();
        how();
    }

    private static void pairs() {
        doc.terms("PAIRS: how many two LEDGES differ by N FATHOMS (0 to 39) at most.");
        doc.promise(34, "PAIRS. IllegalArgumentException: N is none.");
        LedgeEggs x = isle(at(1, 0, 0, 0, 0), at(40, 0, 0, 0, 0), at(1, 0, 0, 0, 0), at(11, 0, 0, 0, 0));
        int[] n = {0, 9, 10, 28, 29, 38, 39};
        int[] want = {1, 1, 3, 3, 4, 4, 6};
        for (int i = 0; i < n.length; i++) {
            due("PAIRS by " + n[i], x.pairs(n[i]), want[i]);
        }
        due("no LEDGE", new LedgeEggs().pairs(39), 0);
        due("one LEDGE is no two", isle(at(1, 0, 0, 0, 0)).pairs(39), 0);
        due("ten LEDGES", isle(times(10, at(7, 0, 0, 0, 0))).pairs(0), 45);
        for (int wrong : outside(0, 39)) {
            refused("PAIRS by " + wrong, () -> x.pairs(wrong), ARGUMENT);
        }
    }

    private static void round() {
        doc.terms("ROUND of a set of LEDGES: fathoms from the top down to all of them and up again (twice the greatest FATHOM; 0 without any); none, if one is deeper than LENGTH.");
        doc.promise(38, "ROUND; NONE.");
        LedgeEggs x = isle(at(29, 0, 0, 0, 0), at(30, 0, 0, 0, 0), at(31, 0, 0, 0, 0), at(1, 0, 0, 0, 0));
        due("without any", x.round(0), 0);
        due("just LENGTH", x.round(0b1011), 60);
        due("one FATHOM deeper", x.round(0b0100), NONE);
        due("one of all is deeper", x.round(0b1111), NONE);
        due("the least FATHOM", x.round(0b1000), 2);
        due("bits of no LEDGE", x.round(-16), 0);
        due("bits of no LEDGE besides", x.round(-16 | 1), 58);
        due("the highest bit", x.round(LEAST), 0);
        due("all bits", x.round(-1), NONE);
        due("a bare cliff", new LedgeEggs().round(-1), 0);
        more(x, "rope 31 bears 1");
        due("a longer ROPE", x.round(0b0100), 62);
        more(x, "rope 1 bears 1");
        due("the shortest ROPE", x.round(0b1000), 2);
        due("too short for the others", x.round(0b0001), NONE);
        LedgeEggs ten = isle(times(9, at(1, 0, 0, 0, 0)), at(40, 0, 0, 0, 0), "rope 40 bears 1");
        due("the tenth LEDGE", ten.round(512), 80);
        due("no eleventh", ten.round(1024), 0);
    }

    private static void split() {
        doc.terms("SPLIT: all LEDGES in two parts, so that EGGS on both differ the least: by how much; one of these parts: of all such the least as bits.");
        doc.promise(39, "SPLIT: by how much (part false), or the part, as bits.");
        due("no LEDGE", new LedgeEggs().split(false), 0);
        due("no LEDGE, its part", new LedgeEggs().split(true), 0);
        LedgeEggs one = isle(at(1, 0, 20, 0, 0));
        due("one LEDGE", one.split(false), 20);
        due("nothing and all: the least as bits", one.split(true), 0);
        LedgeEggs two = isle(at(1, 0, 20, 0, 0), at(1, 0, 0, 0, 0));
        due("one of them is empty", two.split(false), 20);
        due("the least as bits of four", two.split(true), 0);
        LedgeEggs even = isle(at(1, 0, 3, 0, 0), at(1, 0, 3, 0, 0));
        due("even", even.split(false), 0);
        due("the least of two", even.split(true), 1);
        LedgeEggs odd = isle(at(1, 0, 1, 0, 0), at(1, 0, 2, 0, 0), at(1, 0, 4, 0, 0), at(1, 0, 8, 0, 0));
        due("by 1", odd.split(false), 1);
        due("1 + 2 + 4 against 8: the less as bits", odd.split(true), 7);
        LedgeEggs none = isle(times(10, at(1, 0, 0, 0, 0)));
        due("ten without EGGS", none.split(false), 0);
        due("the least of all", none.split(true), 0);
        LedgeEggs full = isle(times(10, at(1, 0, 20, 0, 0)));
        due("ten with all EGGS", full.split(false), 0);
        due("five of ten", full.split(true), 31);
    }

    private static void share() {
        doc.terms("SHARES of N EGGS (0 to 9999): each CLIMBER, each HOLDER, the ROPE and the widow have one share: what one share is, rounded down; the ROPE has what is left besides.");
        doc.promise(40, "SHARES: one share (rope false), or what the ROPE has. IllegalArgumentException: N is none.");
        LedgeEggs bare = new LedgeEggs();
        due("0 EGGS", bare.share(0, false), 0);
        due("0 for the ROPE", bare.share(0, true), 0);
        due("1 of two shares", bare.share(1, false), 0);
        due("1 for the ROPE", bare.share(1, true), 1);
        due("9999 of two shares", bare.share(9999, false), 4999);
        due("the ROPE has one more", bare.share(9999, true), 5000);
        LedgeEggs full = isle(times(6, "holder 1"), times(4, "climber 1"));
        due("11 of twelve shares", full.share(11, false), 0);
        due("all 11 for the ROPE", full.share(11, true), 11);
        due("12 of twelve shares", full.share(12, false), 1);
        due("1 for the ROPE", full.share(12, true), 1);
        due("9999 of twelve shares", full.share(9999, false), 833);
        due("833 and 3 for the ROPE", full.share(9999, true), 836);
        for (int n : outside(0, 9999)) {
            refused("SHARES of " + n, () -> full.share(n, false), ARGUMENT);
            refused("the ROPE of " + n, () -> full.share(n, true), ARGUMENT);
        }
    }

    private static int rests(int eggs, int birds) {
        return isle(at(1, 0, eggs, 0, birds), at(1, 0, 0, 0, 0)).rests();
    }

    private static void rests() {
        doc.terms("who takes is worth all EGGS on LEDGES here together; who leaves all is worth all BIRDS here together, and as much again, if the other one leaves, too: RESTS: both take (bit 0), the first one alone takes (1), the second one alone (2), none takes (3): those from which neither would be worth more by the other choice alone, as bits.");
        doc.promise(41, "RESTS, as bits.");
        due("nothing is worth anything", new LedgeEggs().rests(), 15);
        due("nothing on LEDGES, too", rests(0, 0), 15);
        due("EGGS alone", rests(1, 0), 1);
        due("BIRDS alone", rests(0, 1), 8);
        due("just one less than BIRDS", rests(4, 5), 8);
        due("as many", rests(5, 5), 9);
        due("between", rests(7, 5), 9);
        due("just twice as many", rests(10, 5), 9);
        due("one more than twice", rests(11, 5), 1);
        due("all together", isle(times(10, at(1, 0, 18, 0, 9))).rests(), 9);
        due("all together, one more", isle(times(9, at(1, 0, 18, 0, 9)), at(1, 0, 19, 0, 9)).rests(), 1);
    }

    private static void how() {
        doc.terms("HOW: told is how many EGGS came up in all: sets of LEDGES (each whole, as they are now) that make just so many: how many; SURE: LEDGES in all of them, as bits (0 without).");
        doc.promise(42, "HOW: how many sets (sure false), or SURE, as bits.");
        LedgeEggs bare = new LedgeEggs();
        due("the empty set", bare.how(0, false), 1);
        due("nobody is in it", bare.how(0, true), 0);
        due("no EGGS on no LEDGE", bare.how(1, false), 0);
        due("nor in them", bare.how(1, true), 0);
        LedgeEggs x = isle(at(1, 0, 3, 0, 0), at(1, 0, 2, 0, 0), at(1, 0, 1, 0, 0));
        due("just one", x.how(1, false), 1);
        due("it is", x.how(1, true), 4);
        due("3 or 2 + 1", x.how(3, false), 2);
        due("nobody in both", x.how(3, true), 0);
        due("3 + 2 alone", x.how(5, true), 3);
        due("all", x.how(6, true), 7);
        due("one too many", x.how(7, false), 0);
        due("0 without", x.how(7, true), 0);
        due("below 0", x.how(-1, false), 0);
        due("0 without", x.how(-1, true), 0);
        due("the least int", x.how(LEAST, false), 0);
        due("the greatest int", x.how(MOST, true), 0);
        due("0 EGGS of ten empty ones", isle(times(10, at(1, 0, 0, 0, 0))).how(0, false), 1024);
        LedgeEggs full = isle(times(10, at(1, 0, 20, 0, 0)));
        due("200 EGGS", full.how(200, true), 1023);
        due("100 EGGS", full.how(100, false), 252);
        x.clear(0);
        due("as they are now", x.how(3, true), 6);
    }
}
