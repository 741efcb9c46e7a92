import java.nio.charset.StandardCharsets;

/** What the tests share: wrong answers are printed and counted, texts are fed. */
final class Checks {
    /** A call of the class, whatever it answers. */
    interface Call {
        long answer();
    }

    static final String NO_ELEMENT = "NoSuchElementException";
    static final String ARGUMENT = "IllegalArgumentException";
    static final String STATE = "IllegalStateException";

    private int wrong;
    private String part = "";

    void part(String name) {
        part = name;
    }

    void due(String what, long got, long want) {
        if (got != want) {
            complain(what + " answered " + got + ", due is " + want);
        }
    }

    void dueAll(String what, long[] got, long... want) {
        if (!java.util.Arrays.equals(got, want)) {
            complain(what + " answered " + java.util.Arrays.toString(got) + ", due is " + java.util.Arrays.toString(want));
        }
    }

    void refused(String what, String exception, Call call) {
        String got = outcome(call);
        if (!got.equals(exception)) {
            complain(what + " answered " + got + ", due is " + exception);
        }
    }

    void complain(String line) {
        wrong++;
        System.out.println(part + ": " + line);
    }

    int wrong() {
        return wrong;
    }

    void finish() {
        System.out.println(wrong == 0 ? "all answers are as due" : wrong + " answers are not as due");
        if (wrong != 0) {
            System.exit(1);
        }
    }

    /** The number that a call answers, or the name of what it throws. */
    static String outcome(Call call) {
        try {
            return Long.toString(call.answer());
        } catch (RuntimeException e) {
            return e.getClass().getSimpleName();
        }
    }

    /** Feeds a text, filled up to whole calls with zeros; answers how many bytes it has. */
    static int feed(PacketTrail trail, String text) {
        byte[] bytes = text.getBytes(StandardCharsets.ISO_8859_1);
        for (int at = 0; at < bytes.length; at += 20) {
            int[] numbers = new int[5];
            for (int i = 0; i < 20; i++) {
                int b = at + i < bytes.length ? bytes[at + i] & 255 : 0;
                numbers[i / 4] = numbers[i / 4] << 8 | b;
            }
            trail.feed(numbers[0], numbers[1], numbers[2], numbers[3], numbers[4]);
        }
        return bytes.length;
    }

    static int tell(PacketTrail trail, String text) {
        return trail.text(feed(trail, text));
    }

    /** A new object that a text has told all. */
    static PacketTrail net(String text) {
        PacketTrail trail = new PacketTrail();
        int links = tell(trail, text);
        if (links < 0) {
            throw new AssertionError("a fault in the test's own text at " + trail.fault() + ": " + text);
        }
        return trail;
    }
}
