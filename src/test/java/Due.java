import java.nio.ByteBuffer;
import java.nio.charset.StandardCharsets;
import java.util.Arrays;

/** What the tests share: it counts the answers that are not due, and feeds texts. */
final class Due {
    private static int wrong = 0;
    private static int asked = 0;

    private Due() {
    }

    static void is(String what, long got, long want) {
        asked++;
        if (got != want) {
            wrong++;
            System.out.println(what + " answered " + got + ", due is " + want);
        }
    }

    /** The answer that is due, and the status behind it: what it was refused by, or 0. */
    static void isWith(LowerHalf x, String what, long got, long want, int status) {
        is(what, got, want);
        is(what + ", status", x.status(), status);
    }

    static void refused(LowerHalf x, String what, long got, int by) {
        isWith(x, what, got, by, by);
    }

    static void end(String test) {
        System.out.println(test + ": " + asked + " answers asked, " + wrong + " wrong");
        if (wrong > 0) {
            System.exit(1);
        }
    }

    static void feed(LowerHalf x, byte[] bytes) {
        int before = x.count(8);
        byte[] all = Arrays.copyOf(bytes, (bytes.length + 19) / 20 * 20);
        for (int i = 0; i < all.length; i += 20) {
            ByteBuffer b = ByteBuffer.wrap(all, i, 20);
            x.feed(b.getInt(), b.getInt(), b.getInt(), b.getInt(), b.getInt());
        }
        x.end(before + bytes.length);
    }

    static void tell(LowerHalf x, String text) {
        feed(x, text.getBytes(StandardCharsets.ISO_8859_1));
    }

    static int law(LowerHalf x, String text) {
        tell(x, text);
        return x.law();
    }

    static int orders(LowerHalf x, String text) {
        tell(x, text);
        return x.orders();
    }

    static int row(LowerHalf x, int... bytes) {
        byte[] all = new byte[bytes.length];
        for (int i = 0; i < all.length; i++) {
            all[i] = (byte) bytes[i];
        }
        feed(x, all);
        return x.row();
    }

    /** A law that is in force at once. */
    static LowerHalf under(LowerHalf x, String law) {
        int number = law(x, law);
        if (number < 0) {
            throw new IllegalArgumentException(law + ": fault at " + x.fault());
        }
        x.force(number);
        return x;
    }

    /** Perches in a row in one room, so high, with strides of length 1 between neighbours, and one of the folk on the first. */
    static LowerHalf ladder(int... highs) {
        LowerHalf x = new LowerHalf();
        for (int k = 0; k < highs.length; k++) {
            x.perch(0, highs[k]);
            if (k > 0) {
                x.link(k - 1, k, 1);
            }
        }
        x.folk(5, 0);
        return x;
    }
}
