import java.util.NoSuchElementException;
import java.util.function.IntSupplier;

/** Texts fed to the tape, and all that can be looked at, for the tests whose answers are worked out by hand. */
abstract class Calls {
    static final int NONE = -1;
    static final int THROWS = -7777;

    static int orThrows(IntSupplier call) {
        try {
            return call.getAsInt();
        } catch (NoSuchElementException e) {
            return THROWS;
        }
    }

    /** The text alone is on the tape behind it. */
    static void feed(SeenToMove x, String text) {
        x.end(0);
        for (int i = 0; i < text.length(); i += 20) {
            int[] v = new int[5];
            for (int j = 0; j < 20; j++) {
                v[j / 4] = v[j / 4] << 8 | (i + j < text.length() ? text.charAt(i + j) : 0);
            }
            x.feed(v[0], v[1], v[2], v[3], v[4]);
        }
        x.end(text.length());
    }

    static int field(SeenToMove x, String text) {
        feed(x, text);
        return x.field();
    }

    static int book(SeenToMove x, String text, int lives) {
        feed(x, text);
        return x.book(lives);
    }

    static int sentence(SeenToMove x, String text) {
        feed(x, text);
        return x.sentence();
    }

    static int fits(SeenToMove x, int... bytes) {
        StringBuilder b = new StringBuilder();
        for (int v : bytes) {
            b.append((char) v);
        }
        feed(x, b.toString());
        return x.fits();
    }

    /** A new object with a field that must be right. */
    static SeenToMove with(String text) {
        SeenToMove x = new SeenToMove();
        if (field(x, text) < 0) {
            throw new IllegalStateException("fault " + x.fault() + " in the field " + text);
        }
        return x;
    }

    /** A new object with a field in which so many hours are over. */
    static SeenToMove withHour(String text, int hour) {
        SeenToMove x = with(text);
        for (int left = hour; left > 0; left -= 60) {
            x.hours(Math.min(left, 60));
        }
        return x;
    }

    static String line(SeenToMove x, int f) {
        StringBuilder b = new StringBuilder();
        int size = x.line(f);
        for (int i = 0; i < size; i++) {
            b.append((char) x.byteAt(i));
        }
        return b.toString();
    }

    static String blanks(int n) {
        return " ".repeat(n);
    }

    /** All that is so, as a text: some 150 calls in a field of 6 by 6, as an object stands 512 in all. */
    static String allThatIsSo(SeenToMove x) {
        StringBuilder b = new StringBuilder();
        for (int what = 0; what < 5; what++) {
            b.append(x.count(what)).append(' ').append(x.now(what)).append(' ');
        }
        int owners = x.count(2);
        for (int o = 0; o < owners; o++) {
            b.append("land ").append(x.land(o)).append(' ');
        }
        int figures = x.count(3);
        for (int f = 0; f < figures; f++) {
            for (int what = 0; what < 8; what++) {
                b.append("figure ").append(x.figure(f, what)).append(' ');
            }
        }
        int lookers = x.count(4);
        for (int l = 0; l < lookers; l++) {
            for (int what = 0; what < 6; what++) {
                b.append("looker ").append(x.looker(l, what)).append(' ');
            }
        }
        int wide = x.count(0);
        int cells = wide * x.count(1);
        for (int i = 0; i < cells; i++) {
            b.append("cell ").append(x.cell(i % wide, i / wide, 0)).append(x.cell(i % wide, i / wide, 3)).append(' ');
        }
        return b.append("said ").append(x.said(NONE)).append(' ').append(x.said(0)).toString();
    }

    /** What calls told last, but for fault(), as a text. */
    static String allToldLast(SeenToMove x) {
        StringBuilder b = new StringBuilder();
        for (int i = 0; i < 5; i++) {
            b.append(x.coverBy(i)).append(' ').append(x.fitsAt(i)).append(' ').append(x.byteAt(i)).append(' ').append(x.told(i)).append(' ');
        }
        return b.append(x.fewest()).append(' ').append(x.blinded()).append(' ').append(x.ask()).toString();
    }
}
