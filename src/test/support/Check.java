import java.util.NoSuchElementException;
import java.util.Objects;

/** Counts what is not as due, and feeds texts. */
final class Check {
    static final Class<?> NO_SUCH = NoSuchElementException.class;
    static final Class<?> ARGUMENT = IllegalArgumentException.class;
    static final Class<?> STATE = IllegalStateException.class;

    interface Call {
        long answer();
    }

    private static int asked = 0;
    private static int wrong = 0;

    private Check() {
    }

    static void same(String what, Object due, Object got) {
        asked++;
        if (!Objects.equals(due, got)) {
            wrong++;
            System.out.println(what + " answered " + got + ", due is " + due);
        }
    }

    static void is(String what, long due, Call call) {
        same(what, (Object) due, outcome(call));
    }

    static void refused(String what, Class<?> due, Call call) {
        same(what, (Object) due, outcome(call));
    }

    /** The number that a call answers, or the class of what it throws. */
    static Object outcome(Call call) {
        try {
            return call.answer();
        } catch (RuntimeException thrown) {
            return thrown.getClass();
        }
    }

    static void feedAll(ProcessDesk desk, String text) {
        byte[] bytes = new byte[(text.length() + 19) / 20 * 20];
        for (int i = 0; i < text.length(); i++) {
            bytes[i] = (byte) text.charAt(i);
        }
        for (int at = 0; at < bytes.length; at += 20) {
            desk.feed(four(bytes, at), four(bytes, at + 4), four(bytes, at + 8), four(bytes, at + 12),
                    four(bytes, at + 16));
        }
    }

    private static int four(byte[] bytes, int at) {
        return (bytes[at] & 255) << 24 | (bytes[at + 1] & 255) << 16 | (bytes[at + 2] & 255) << 8
                | bytes[at + 3] & 255;
    }

    static int tell(ProcessDesk desk, String text) {
        feedAll(desk, text);
        return desk.text(text.length());
    }

    static ProcessDesk deskOf(String text) {
        ProcessDesk desk = new ProcessDesk();
        int told = tell(desk, text);
        same("text of " + text, true, told > 0);
        return desk;
    }

    static void end(String name) {
        System.out.println(name + ": " + asked + " asked, " + wrong + " not as due");
        if (wrong != 0 || asked == 0) {
            System.exit(1);
        }
    }
}
