import java.io.IOException;
import java.nio.file.Files;
import java.nio.file.Path;
import java.util.List;
import java.util.NoSuchElementException;
import java.util.Objects;

/** Counts what is not as due, and feeds texts. */
final class Check {
    static final Class<?> NO_SUCH = NoSuchElementException.class;
    static final Class<?> ARGUMENT = IllegalArgumentException.class;
    static final Class<?> STATE = IllegalStateException.class;
    /** In the order of status(). */
    private static final List<Class<?>> REASONS = List.of(NO_SUCH, ARGUMENT, STATE);

    interface Call {
        long answer();
    }

    interface Make {
        ProcessDesk desk();
    }

    interface CallOn {
        long answer(ProcessDesk desk);
    }

    private static int asked = 0;
    private static int wrong = 0;
    private static int sentences = 0;
    private static int askedAhead = 0;
    private static String sentence = "";
    private static String document = null;

    private Check() {
    }

    /** What is checked from here on is what these words of the document say. */
    static void sentence(String words) {
        endSentence();
        sentences++;
        sentence = words;
        askedAhead = asked;
        if (!document().isEmpty() && !document().contains(words)) {
            wrong++;
            System.out.println("the document has no such words: " + words);
        }
    }

    private static void endSentence() {
        if (!sentence.isEmpty() && asked == askedAhead) {
            wrong++;
            System.out.println("nothing is checked of: " + sentence);
        }
    }

    private static String document() {
        if (document == null) {
            try {
                document = Files.readString(Path.of("../shared/DOC.md"));
            } catch (IOException unread) {
                // where the document is not, the words can't be looked up; the calls are checked all the same
                document = "";
            }
        }
        return document;
    }

    static void same(String what, Object due, Object got) {
        asked++;
        if (!Objects.equals(due, got)) {
            wrong++;
            String of = sentence.isEmpty() ? "" : " (\"" + sentence + "\")";
            System.out.println(what + " answered " + got + ", due is " + due + of);
        }
    }

    static void is(String what, long due, Call call) {
        same(what, (Object) due, outcome(call));
    }

    static void refused(String what, Class<?> due, Call call) {
        same(what, (Object) due, outcome(call));
    }

    /** The call must throw what is due and be counted as that; a desk without that call must tell the same. */
    static void refusedAlone(String what, Class<?> due, Make make, CallOn call) {
        ProcessDesk with = make.desk();
        ProcessDesk without = make.desk();
        List<Integer> counted = State.refusals(without);
        int reason = REASONS.indexOf(due);
        counted.set(reason, counted.get(reason) + 1);
        same(what, (Object) due, outcome(() -> call.answer(with)));
        same(what + ": status", counted, State.refusals(with));
        same(what + ": all else", State.of(without), State.of(with));
        same(what + ": what can be taken back", State.backwards(without), State.backwards(with));
    }

    /** The number that a call answers, or the class of what it throws. */
    static Object outcome(Call call) {
        try {
            return call.answer();
        } catch (RuntimeException thrown) {
            return thrown.getClass();
        }
    }

    static void feedAll(ProcessDesk desk, String text) {
        byte[] bytes = new byte[(text.length() + 19) / 20 * 20];
        for (int i = 0; i < text.length(); i++) {
            bytes[i] = (byte) text.charAt(i);
        }
        for (int at = 0; at < bytes.length; at += 20) {
            desk.feed(four(bytes, at), four(bytes, at + 4), four(bytes, at + 8), four(bytes, at + 12),
                    four(bytes, at + 16));
        }
    }

    private static int four(byte[] bytes, int at) {
        return (bytes[at] & 255) << 24 | (bytes[at + 1] & 255) << 16 | (bytes[at + 2] & 255) << 8
                | bytes[at + 3] & 255;
    }

    static int tell(ProcessDesk desk, String text) {
        feedAll(desk, text);
        return desk.text(text.length());
    }

    static ProcessDesk deskOf(String text) {
        ProcessDesk desk = new ProcessDesk();
        int told = tell(desk, text);
        same("text of " + text, true, told > 0);
        return desk;
    }

    static void end(String name) {
        endSentence();
        String told = sentences == 0 ? "" : sentences + " sentences, ";
        System.out.println(name + ": " + told + asked + " asked, " + wrong + " not as due");
        if (wrong != 0 || asked == 0) {
            System.exit(1);
        }
    }
}
