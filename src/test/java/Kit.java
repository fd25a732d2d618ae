import java.util.NoSuchElementException;

/** What all tests use: texts onto the tape, answers against what is due, the exit code. */
final class Kit {
    static final String TOWN = "thing song near 2;thing cold near 3;thing vowel far 1;thing dog far 4;"
            + "person ann bridge far;person bob bridge near;person cid near far;person dot far far;"
            + "has ann song 6;has bob vowel 8;has cid song 3;has dot vowel 9;has dot dog 4;"
            + "asks far vowel 3;asks near song 2;asks near cold 1;meets ann bob;";

    private int asked;
    private int wrong;

    void is(String what, long got, long due) {
        asked++;
        if (got != due) {
            wrong++;
            if (wrong <= 40) {
                System.out.println(what + " answered " + got + ", due is " + due);
            }
        }
    }

    void is(String what, boolean got, boolean due) {
        is(what, got ? 1 : 0, due ? 1 : 0);
    }

    void throwsNoSuch(String what, BridgeToll x, int p, int k) {
        int thrown = 0;
        try {
            x.person(p, k);
        } catch (NoSuchElementException e) {
            thrown = 1;
        }
        is(what + " throws", thrown, 1);
    }

    /** A BRIDGE read by a new object: how many LINES, or -1 less the place of a FAULT, whose kind is due too. */
    void bridgeIs(String text, int due, int kind) {
        BridgeToll x = new BridgeToll();
        is("bridge [" + text + "]", bridge(x, text), due);
        is("fault of bridge [" + text + "]", x.fault(), kind);
        is("the tape is empty behind bridge [" + text + "]", x.count(2), 0);
    }

    void bridgeFault(String text, int kind, int place) {
        bridgeIs(text, -1 - place, kind);
    }

    /** A BOOK judged on a BRIDGE. */
    void bookIs(String on, String text, int due, int kind) {
        BridgeToll x = on(on);
        is("book [" + text + "]", book(x, text, 0), due);
        is("fault of book [" + text + "]", x.fault(), kind);
        is("the tape is empty behind book [" + text + "]", x.count(2), 0);
    }

    void bookFault(String on, String text, int kind, int place) {
        bookIs(on, text, -2 - place, kind);
    }

    void sentenceIs(String text, int due, int kind) {
        BridgeToll x = new BridgeToll();
        is("sentence [" + text + "]", sentence(x, text), due);
        is("fault of sentence [" + text + "]", x.fault(), kind);
        is("the tape is empty behind sentence [" + text + "]", x.count(2), 0);
    }

    void sentenceFault(String text, int kind, int place) {
        sentenceIs(text, -1 - place, kind);
    }

    void close() {
        System.out.println(asked + " answers, " + wrong + " not as due");
        if (wrong != 0 || asked == 0) {
            System.exit(1);
        }
    }

    /** Puts a text behind the tape, which must be empty and short enough for whole feeds. */
    static void write(BridgeToll x, String text) {
        byte[] bytes = new byte[text.length()];
        for (int i = 0; i < bytes.length; i++) {
            bytes[i] = (byte) text.charAt(i);
        }
        writeBytes(x, bytes);
    }

    static void writeBytes(BridgeToll x, byte[] bytes) {
        for (int i = 0; i < bytes.length; i += 20) {
            x.feed(number(bytes, i), number(bytes, i + 4), number(bytes, i + 8), number(bytes, i + 12),
                    number(bytes, i + 16));
        }
        x.end(bytes.length);
    }

    static void writeNumbers(BridgeToll x, int... numbers) {
        byte[] bytes = new byte[numbers.length];
        for (int i = 0; i < bytes.length; i++) {
            bytes[i] = (byte) numbers[i];
        }
        writeBytes(x, bytes);
    }

    private static int number(byte[] bytes, int from) {
        int n = 0;
        for (int i = from; i < from + 4; i++) {
            n = n << 8 | (i < bytes.length ? bytes[i] & 255 : 0);
        }
        return n;
    }

    static int bridge(BridgeToll x, String text) {
        write(x, text);
        return x.bridge();
    }

    static int book(BridgeToll x, String text, int lives) {
        write(x, text);
        return x.book(lives);
    }

    static int sentence(BridgeToll x, String text) {
        write(x, text);
        return x.sentence();
    }

    static BridgeToll on(String text) {
        BridgeToll x = new BridgeToll();
        if (bridge(x, text) < 0) {
            throw new IllegalStateException("a test's own BRIDGE has a FAULT: " + text);
        }
        return x;
    }

    static String passText(BridgeToll x, int p) {
        int n = x.pass(p);
        StringBuilder b = new StringBuilder();
        for (int i = 0; i < n; i++) {
            b.append((char) x.byteAt(i));
        }
        return b.toString();
    }

    /** LINES of n THINGS, ta, tb, .., that one has by living a DAY near. */
    static String things(int n) {
        StringBuilder b = new StringBuilder();
        for (int i = 0; i < n; i++) {
            b.append("thing t").append((char) ('a' + i)).append(" near 1;");
        }
        return b.toString();
    }

    /** LINES of n PERSONS, pa, pb, .., all of them in one PLACE and of one mind. */
    static String persons(int n, String place, String end) {
        StringBuilder b = new StringBuilder();
        for (int i = 0; i < n; i++) {
            b.append("person p").append((char) ('a' + i)).append(' ').append(place).append(' ').append(end).append(';');
        }
        return b.toString();
    }

    /** So many DAYS at once, whatever days() takes. */
    static void live(BridgeToll x, int n) {
        for (int left = n; left > 0; left -= 60) {
            x.days(Math.min(left, 60));
        }
    }

    static String times(String s, int n) {
        return s.repeat(n);
    }

    /** All that can be seen of the BRIDGE, so that two moments can be compared; PASSES are written for the NAMES. */
    static String seen(BridgeToll x) {
        StringBuilder b = new StringBuilder(glance(x));
        for (int p = 0; p < x.count(1); p++) {
            b.append(passText(x, p)).append(' ');
        }
        return b.toString();
    }

    /** As seen, without a call that changes what is told last. */
    static String glance(BridgeToll x) {
        StringBuilder b = new StringBuilder();
        for (int i = 0; i < 7; i++) {
            b.append(x.now(i)).append(' ');
        }
        for (int t = 0; t < x.count(0); t++) {
            b.append(x.thing(t, 0)).append(',').append(x.thing(t, 1)).append(',').append(x.thing(t, 2));
            b.append(',').append(x.asks(0, t)).append(',').append(x.asks(1, t)).append(' ');
        }
        for (int p = 0; p < x.count(1); p++) {
            for (int i = 0; i < 6; i++) {
                b.append(x.person(p, i)).append(',');
            }
            for (int t = 0; t < x.count(0); t++) {
                b.append(x.have(p, t)).append(',');
            }
            b.append(' ');
        }
        return b.toString();
    }
}
