/** Promises 1 to 3 and 41, edge by edge. */
public final class EdgeTapeTest {
    private static final Kit K = new Kit();
    private static final int BLANKS = 0x20202020;
    private static final int WRONG = 0x21212121;

    public static void main(String[] args) {
        aNewObject();
        fedTillItIsFull();
        fedShortOfFull();
        noneCome();
        highestFirst();
        ended();
        firstBytesAlone();
        counts();
        emptyBehindATextAlone();
        K.close();
    }

    /** An empty BRIDGE; an empty tape; nothing was told yet. */
    private static void aNewObject() {
        BridgeToll x = new BridgeToll();
        for (int what = 0; what <= 6; what++) {
            K.is("now(" + what + ")", x.now(what), 0);
        }
        for (int what = 0; what <= 2; what++) {
            K.is("count(" + what + ")", x.count(what), 0);
        }
        K.is("taught", x.taught(), -1);
        K.is("smallest", x.smallest(), -1);
        K.is("offer", x.offer(), -1);
        K.is("crowd", x.crowd(), -1);
        K.is("byteAt", x.byteAt(0), -1);
        K.is("fault", x.fault(), 0);
        K.is("undo", x.undo(), -1);
        K.is("restore(0)", x.restore(0), false);
        K.is("restore(1)", x.restore(1), false);
        for (int i = 0; i < 8; i++) {
            K.is("schooled", x.schooled(i), -1);
            K.is("told", x.told(i), -1);
            K.is("said", x.said(i - 1), -1);
        }
        K.is("the empty tape is a BRIDGE", x.bridge(), 0);
        K.is("and a BOOK", x.book(1), -1);
        K.is("and no SENTENCE", x.sentence(), -1);
        K.is("and no LAW", x.laws(), -1);
        K.is("a DAY goes by on an empty one", x.days(60), 60);
        K.is("at END 0 nothing is asked", x.eased(0), 0);
    }

    private static int feedBlanks(BridgeToll x) {
        return x.feed(BLANKS, BLANKS, BLANKS, BLANKS, BLANKS);
    }

    /** How many it has; NONE, if it would have more than 940. */
    private static void fedTillItIsFull() {
        BridgeToll x = new BridgeToll();
        for (int n = 20; n <= 940; n += 20) {
            K.is("feed to " + n, feedBlanks(x), n);
            K.is("count at " + n, x.count(2), n);
        }
        for (int i = 0; i < 3; i++) {
            K.is("feed beyond 940", feedBlanks(x), -1);
            K.is("count stays", x.count(2), 940);
        }
    }

    private static void fedShortOfFull() {
        for (int n = 915; n <= 940; n++) {
            BridgeToll x = new BridgeToll();
            for (int i = 0; i < 47; i++) {
                feedBlanks(x);
            }
            x.end(n);
            K.is("feed on " + n, feedBlanks(x), n <= 920 ? n + 20 : -1);
            K.is("then it has", x.count(2), n <= 920 ? n + 20 : n);
        }
    }

    /** A feed that is refused leaves each byte as it is: 880 of the tape are a BRIDGE. */
    private static void noneCome() {
        BridgeToll x = new BridgeToll();
        for (int i = 0; i < 47; i++) {
            feedBlanks(x);
        }
        x.end(921);
        K.is("refused", x.feed(WRONG, WRONG, WRONG, WRONG, WRONG), -1);
        x.end(880);
        K.is("blanks all along", x.bridge(), 0);
        for (int i = 0; i < 47; i++) {
            feedBlanks(x);
        }
        K.is("refused when full", x.feed(WRONG, WRONG, WRONG, WRONG, WRONG), -1);
        x.end(900);
        K.is("blanks all along", x.bridge(), 0);
    }

    private static void highestFirst() {
        BridgeToll x = new BridgeToll();
        // "thing abcdef near 1;": each of the five numbers has its own four bytes in their order.
        x.feed(0x7468696e, 0x67206162, 0x63646566, 0x206e6561, 0x7220313b);
        K.is("twenty bytes are a LINE", x.bridge(), 1);
        for (int place = 0; place < 20; place++) {
            for (int b : new int[] {33, 127, 128, 255, 0}) {
                int[] n = {BLANKS, BLANKS, BLANKS, BLANKS, BLANKS};
                int shift = 24 - 8 * (place % 4);
                n[place / 4] = n[place / 4] & ~(255 << shift) | b << shift;
                x.feed(n[0], n[1], n[2], n[3], n[4]);
                K.is("byte " + b + " at " + place, x.bridge(), -1 - place);
            }
        }
        x.feed(BLANKS, BLANKS, BLANKS, BLANKS, BLANKS);
        x.feed(BLANKS, WRONG, BLANKS, BLANKS, BLANKS);
        K.is("behind the tape", x.bridge(), -1 - 24);
    }

    private static void ended() {
        BridgeToll x = new BridgeToll();
        K.is("end(0) of none", x.end(0), true);
        K.is("end(1) of none", x.end(1), false);
        K.is("end(-1) of none", x.end(-1), false);
        feedBlanks(x);
        for (int n : new int[] {21, 22, 940, 941, Integer.MAX_VALUE, -1, -2, -20, Integer.MIN_VALUE}) {
            K.is("end(" + n + ") of 20", x.end(n), false);
            K.is("it stays", x.count(2), 20);
        }
        K.is("end(20) of 20", x.end(20), true);
        K.is("count", x.count(2), 20);
        K.is("end(19) of 20", x.end(19), true);
        K.is("count", x.count(2), 19);
        K.is("end(20) of 19", x.end(20), false);
        K.is("count", x.count(2), 19);
        K.is("end(1)", x.end(1), true);
        K.is("count", x.count(2), 1);
        K.is("end(0)", x.end(0), true);
        K.is("count", x.count(2), 0);
        for (int i = 0; i < 47; i++) {
            feedBlanks(x);
        }
        K.is("end(941) of 940", x.end(941), false);
        K.is("end(940) of 940", x.end(940), true);
        K.is("end(939) of 940", x.end(939), true);
    }

    private static void firstBytesAlone() {
        BridgeToll x = new BridgeToll();
        // "thing a near 1;" and what is none behind it.
        x.feed(0x7468696e, 0x67206120, 0x6e656172, 0x20313b21, WRONG);
        x.end(15);
        K.is("its first 15 bytes", x.bridge(), 1);
        x.feed(0x7468696e, 0x67206120, 0x6e656172, 0x20313b21, WRONG);
        x.end(16);
        K.is("its first 16 bytes", x.bridge(), -1 - 15);
        x.feed(0x7468696e, 0x67206120, 0x6e656172, 0x20313b21, WRONG);
        x.end(15);
        feedBlanks(x);
        K.is("what was cut does not come again", x.bridge(), 1);
    }

    private static void counts() {
        BridgeToll x = Kit.on(Kit.things(2) + Kit.persons(3, "near", "far"));
        Kit.write(x, "abcde");
        int[] due = {2, 3, 5};
        for (int what = 0; what < 3; what++) {
            K.is("count(" + what + ")", x.count(what), due[what]);
        }
        for (int what : new int[] {-1, 3, 4, Integer.MAX_VALUE, Integer.MIN_VALUE}) {
            K.is("count(" + what + ")", x.count(what), -1);
        }
        BridgeToll full = Kit.on(Kit.things(6) + Kit.persons(8, "far", "far"));
        K.is("six THINGS", full.count(0), 6);
        K.is("eight PERSONS", full.count(1), 8);
    }

    /** bridge(), book(), sentence() and laws() use the tape up; no other call does, nor a book() of -1000. */
    private static void emptyBehindATextAlone() {
        for (int call = 0; call < 4; call++) {
            for (String text : new String[] {"", "!", "near", "day 1;", "thing a near 1;"}) {
                BridgeToll x = new BridgeToll();
                Kit.write(x, text);
                switch (call) {
                    case 0 -> x.bridge();
                    case 1 -> x.book(1);
                    case 2 -> x.sentence();
                    default -> x.laws();
                }
                K.is("the tape is empty then", x.count(2), 0);
            }
        }
        BridgeToll x = Kit.on(Kit.TOWN);
        x.image(0);
        Kit.write(x, "abc");
        x.book(2);
        x.book(-1);
        x.days(1);
        x.go(2, 1);
        x.undo();
        x.teacher(0);
        x.school();
        x.rush();
        x.pass(0);
        x.drawn(3, 3);
        x.odds(0, 3, 3);
        x.said(-1);
        x.image(1);
        x.restore(0);
        K.throwsNoSuch("person", x, 9, 9);
        K.is("the tape stays", x.count(2), 3);
    }
}
