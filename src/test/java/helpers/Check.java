import java.nio.ByteBuffer;
import java.nio.charset.StandardCharsets;
import java.util.Arrays;

/** Counts the answers that are not as due, and feeds texts. */
final class Check {
    interface Call {
        Object make();
    }

    interface Act {
        void make();
    }

    private int wrong;
    private int asked;

    void due(String what, Object got, Object want) {
        asked++;
        if (!want.equals(got)) {
            wrong++;
            System.out.println(what + " answered " + got + ", due is " + want);
        }
    }

    /** The call must throw just this class: what the machine throws is a class below it. */
    void dueThrow(String what, Call call, Class<?> want) {
        due(what, answer(call), "throws." + want.getSimpleName());
    }

    static Object answer(Call call) {
        try {
            return call.make();
        } catch (RuntimeException e) {
            return "throws." + e.getClass().getSimpleName();
        }
    }

    static void tell(LedgeEggs x, String text) {
        byte[] bytes = text.getBytes(StandardCharsets.ISO_8859_1);
        for (int from = 0; from < bytes.length; from += 20) {
            ByteBuffer five = ByteBuffer.wrap(Arrays.copyOfRange(bytes, from, from + 20));
            x.feed(five.getInt(), five.getInt(), five.getInt(), five.getInt(), five.getInt());
        }
        x.end(bytes.length);
    }

    static LedgeEggs isle(String text) {
        LedgeEggs x = new LedgeEggs();
        tell(x, text);
        x.isle();
        return x;
    }

    static void law(LedgeEggs x, String text) {
        tell(x, text);
        x.law();
    }

    void isleFault(String text, int want) {
        LedgeEggs x = new LedgeEggs();
        tell(x, text);
        due("isle '" + text + "'", answer(x::isle), want == LedgeEggs.NONE ? (Object) 1 : "throws.IllegalArgumentException");
        due("fault of isle '" + text + "'", x.fault(), want);
    }

    void lawFault(String text, int want) {
        LedgeEggs x = new LedgeEggs();
        tell(x, text);
        Object got = answer(x::law);
        due("law '" + text + "' is wrong", got.equals("throws.IllegalArgumentException"), want != LedgeEggs.NONE);
        due("fault of law '" + text + "'", x.fault(), want);
        due("lines of law '" + text + "'", x.count(4), want == LedgeEggs.NONE ? got : (Object) LedgeEggs.NONE);
    }

    void end(String name) {
        System.out.println(name + ": " + asked + " answers, " + wrong + " not as due");
        if (wrong != 0) {
            System.exit(1);
        }
    }
}
