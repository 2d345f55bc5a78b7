import java.nio.charset.StandardCharsets;
import java.util.NoSuchElementException;
import java.util.function.Consumer;
import java.util.function.Supplier;

/** What the tests have in common: texts put on a desk's tape, and answers held against what is due. */
final class Check {
    /** Stands for the NoSuchElementException that drop() throws. */
    static final int THROWN = Integer.MIN_VALUE;

    private static int asked = 0;
    private static int wrong = 0;

    private Check() {
    }

    static void due(String call, long got, long want) {
        asked++;
        if (got != want) {
            wrong++;
            if (wrong <= 50) {
                System.out.println(call + " answered " + got + ", due is " + want);
            }
        }
    }

    static void due(String call, boolean got, boolean want) {
        due(call, got ? 1 : 0, want ? 1 : 0);
    }

    /** Puts bytes behind the tape; they are padded for feed(), and the padding is cut off. */
    static void tape(TankerDesk desk, String text) {
        byte[] bytes = text.getBytes(StandardCharsets.ISO_8859_1);
        int size = desk.now(9);
        for (int at = 0; at < bytes.length; at += 20) {
            int[] five = new int[5];
            for (int i = 0; i < 20; i++) {
                int sign = at + i < bytes.length ? bytes[at + i] & 255 : 0;
                five[i / 4] = five[i / 4] << 8 | sign;
            }
            if (desk.feed(five[0], five[1], five[2], five[3], five[4]) == TankerDesk.NONE) {
                throw new IllegalStateException("the text does not go onto the tape");
            }
        }
        desk.end(size + bytes.length);
    }

    static int tell(TankerDesk desk, String text) {
        tape(desk, text);
        return desk.text();
    }

    static TankerDesk desk(String text) {
        TankerDesk desk = new TankerDesk();
        if (tell(desk, text) < 0) {
            throw new IllegalStateException("not a text: " + text);
        }
        return desk;
    }

    static int drop(TankerDesk desk, int drop, int what) {
        try {
            return desk.drop(drop, what);
        } catch (NoSuchElementException e) {
            return THROWN;
        }
    }

    /** All that can be asked of a desk without changing it, in a row. */
    static String picture(TankerDesk desk) {
        StringBuilder all = new StringBuilder();
        for (int what = -1; what <= 10; what++) {
            all.append(desk.now(what)).append(' ');
        }
        for (int c = -1; c <= 5; c++) {
            for (int what = -1; what <= 7; what++) {
                all.append(desk.compartment(c, what)).append(' ');
            }
            for (int liquid = -1; liquid <= 6; liquid++) {
                all.append(desk.may(c, liquid) ? 1 : 0).append(' ');
            }
        }
        for (int d = -1; d <= 20; d++) {
            for (int what = -1; what <= 6; what++) {
                all.append(drop(desk, d, what)).append(' ');
            }
        }
        all.append(desk.fault());
        return all.toString();
    }

    /** A picture, and all that is found by searching. */
    static String wholePicture(TankerDesk desk) {
        StringBuilder all = new StringBuilder(picture(desk)).append(" / ");
        all.append(desk.orders()).append(' ').append(desk.washes()).append(' ');
        for (int i = -1; i <= 25; i++) {
            all.append(desk.ordered(i)).append(' ').append(desk.without(i)).append(' ').append(desk.plan(i)).append(' ');
        }
        for (int c = 0; c < 5; c++) {
            for (int quantity = 0; quantity < 10; quantity++) {
                all.append(desk.would(c, 0, quantity)).append(' ');
            }
        }
        return all.toString();
    }

    /** Of two desks made alike one gets a call: it stays like the other, behind each undo and in its tape too. */
    static void changesNothing(String call, Supplier<TankerDesk> make, Consumer<TankerDesk> refused) {
        TankerDesk one = make.get();
        TankerDesk other = make.get();
        refused.accept(one);
        due(call + " changes nothing", wholePicture(one).equals(wholePicture(other)), true);
        for (int left = other.now(8); left >= 0; left--) {
            due(call + " lets undo() be", one.undo(), other.undo());
            due(call + " changes nothing that undo() brings back", wholePicture(one).equals(wholePicture(other)), true);
        }
        due(call + " lets the tape be", one.text(), other.text());
        due(call + " lets the fault of the tape be", one.fault(), other.fault());
        due(call + " lets what the tape tells be", wholePicture(one).equals(wholePicture(other)), true);
    }

    static void finish() {
        System.out.println(wrong == 0 ? asked + " answers are as due" : wrong + " of " + asked + " answers are not as due");
        if (wrong != 0) {
            System.exit(1);
        }
    }
}
