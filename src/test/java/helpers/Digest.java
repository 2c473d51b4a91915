/** All that can be seen of an object, in one text; asking leaves the object as it was, but for whole(). */
final class Digest {
    private Digest() {
    }

    static String of(LedgeEggs x) {
        StringBuilder s = new StringBuilder();
        int[] counts = new int[17];
        for (int what = 0; what <= 16; what++) {
            counts[what] = x.count(what);
            s.append(counts[what]).append(' ');
        }
        s.append("fault ").append(x.fault());
        for (int l = 0; l < counts[0]; l++) {
            s.append(" ledge");
            for (int what = 0; what < 7; what++) {
                s.append(' ').append(x.ledge(l, what));
            }
        }
        for (int h = 0; h < counts[1]; h++) {
            s.append(" holder ").append(x.holder(h, false)).append(' ').append(x.holder(h, true));
        }
        for (int k = 0; k < counts[2]; k++) {
            s.append(" climber ").append(x.climber(k, 0)).append(' ').append(x.climber(k, 1)).append(' ').append(x.climber(k, 2));
        }
        for (int row = 0; row < counts[15]; row++) {
            s.append(" row");
            for (int what = 0; what < 6; what++) {
                s.append(' ').append(x.log(row, what));
            }
        }
        s.append(" trial ").append(x.trial(40, false)).append(' ').append(x.trial(3, true));
        int seed = x.seed(0);
        x.seed(seed);
        return s.append(" seed ").append(seed).toString();
    }

    /** Also what would be undone and gone back to, and what stands on the TAPE; the object is used up by that. */
    static String whole(LedgeEggs x) {
        StringBuilder s = new StringBuilder(of(x));
        while (x.undo()) {
            s.append("\nundone: ").append(of(x));
        }
        s.append("\nback ").append(x.back()).append(": ").append(of(x));
        int tape = x.feed(0, 0, 0, 0, 0) - 20;
        x.end(tape);
        s.append("\ntape ").append(tape).append(" isle ").append(Check.answer(x::isle)).append(": ").append(of(x));
        return s.toString();
    }

    /** The first line in which two digests are not the same, of both; "nothing" if all are. */
    static String difference(String one, String other) {
        String[] a = one.split("\n");
        String[] b = other.split("\n");
        for (int i = 0; i < Math.max(a.length, b.length); i++) {
            String left = i < a.length ? a[i] : "";
            String right = i < b.length ? b[i] : "";
            if (!left.equals(right)) {
                return left + " / " + right;
            }
        }
        return "nothing";
    }
}
