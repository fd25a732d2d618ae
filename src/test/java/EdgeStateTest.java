/** Promises 6 to 10, edge by edge: each number that names something one short, at its least and most, and beyond. */
public final class EdgeStateTest {
    private static final Kit K = new Kit();
    private static final int[] NUMBERS = {Integer.MIN_VALUE, -8, -2, -1, 0, 1, 2, 3, 4, 5, 6, 7, 8, 9, 15, 16, 255, 256,
        Integer.MAX_VALUE};

    public static void main(String[] args) {
        int[][] sizes = {{0, 0}, {0, 1}, {1, 0}, {1, 1}, {2, 3}, {5, 7}, {6, 8}};
        for (int[] size : sizes) {
            whichOnes(size[0], size[1]);
        }
        nothingChangesByAThrow();
        fullOnes();
        allInOnePlace();
        whoCouldPay();
        howOftenGone();
        stayed();
        fiveHundredAndTwelveCalls();
        K.close();
    }

    private static boolean isIn(int n, int size) {
        return n >= 0 && n < size;
    }

    private static void whichOnes(int things, int persons) {
        BridgeToll x = Kit.on(Kit.things(things) + Kit.persons(persons, "bridge", "near"));
        for (int a : NUMBERS) {
            for (int b : NUMBERS) {
                String at = "(" + a + ", " + b + ") of " + things + " and " + persons;
                if (isIn(a, persons) && isIn(b, 6)) {
                    int[] due = {1, 0, 0, -1, 0, 0};
                    K.is("person" + at, x.person(a, b), due[b]);
                } else {
                    K.throwsNoSuch("person" + at, x, a, b);
                }
                K.is("have" + at, x.have(a, b), isIn(a, persons) && isIn(b, things) ? 0 : -1);
                int[] due = {0, 1, 0};
                K.is("thing" + at, x.thing(a, b), isIn(a, things) && isIn(b, 3) ? due[b] : -1);
                K.is("asks" + at, x.asks(a, b), isIn(a, 2) && isIn(b, things) ? 0 : -1);
            }
            K.is("now(" + a + ")", x.now(a) == -1, !isIn(a, 7));
        }
    }

    /** A call that throws changes nothing. */
    private static void nothingChangesByAThrow() {
        BridgeToll x = Kit.on(Kit.TOWN);
        x.days(2);
        x.go(2, 1);
        Kit.sentence(x, "bridge");
        Kit.book(x, "day 0;", 0);
        Kit.write(x, "abc");
        String before = Kit.glance(x);
        x.pass(3);
        K.throwsNoSuch("no PERSON", x, 4, 0);
        K.throwsNoSuch("no PERSON", x, -1, 0);
        K.throwsNoSuch("no what", x, 0, 6);
        K.throwsNoSuch("no what", x, 0, -1);
        K.is("the BRIDGE", Kit.glance(x).equals(before), true);
        K.is("the tape", x.count(2), 3);
        K.is("the FAULT", x.fault(), 2);
        K.is("the PASS", x.byteAt(0), 'd');
        K.is("the SENTENCE", x.said(-1), 3);
        K.is("what can be undone", x.undo(), 1);
        K.is("what can be undone", x.undo(), 0);
    }

    /** Eight PERSONS who have 12 of each of six THINGS. */
    private static void fullOnes() {
        StringBuilder b = new StringBuilder(Kit.things(6)).append(Kit.persons(8, "near", "far"));
        for (int p = 0; p < 8; p++) {
            for (int t = 0; t < 6; t++) {
                b.append("has p").append((char) ('a' + p)).append(" t").append((char) ('a' + t)).append(" 12;");
            }
        }
        BridgeToll x = Kit.on(b.toString());
        K.is("eight PERSONS", x.count(1), 8);
        for (int p = 0; p < 8; p++) {
            K.is("all that he has", x.person(p, 5), 72);
        }
        for (int t = 0; t < 6; t++) {
            K.is("how much all have of it", x.thing(t, 2), 96);
        }
        K.is("all that all have", x.now(6), 576);
        x.days(60);
        K.is("12 at most", x.now(6), 576);
    }

    private static void allInOnePlace() {
        String[] places = {"near", "bridge", "far"};
        for (int n = 0; n <= 8; n++) {
            for (int place = 0; place < 3; place++) {
                BridgeToll x = Kit.on(Kit.persons(n, places[place], "far"));
                for (int what = 1; what <= 3; what++) {
                    K.is("now(" + what + ") of " + n, x.now(what), what == place + 1 ? (1 << n) - 1 : 0);
                }
            }
        }
    }

    /** He could PAY, if of each THING he has as much as it asks, at least; what the other END asks is nothing to him. */
    private static void whoCouldPay() {
        String text = "thing a near 1;thing b far 1;person p bridge near;person q bridge far;"
                + "has p a 4;has p b 6;has q a 6;has q b 4;";
        for (int n = 0; n <= 7; n++) {
            BridgeToll x = Kit.on(text);
            x.ask(0, 0, n);
            K.is("near asks a, " + n, x.now(4), n <= 4 ? 3 : 2);
            x = Kit.on(text);
            x.ask(0, 1, n);
            K.is("near asks b, " + n, x.now(4), n <= 6 ? 3 : 2);
            x = Kit.on(text);
            x.ask(1, 0, n);
            K.is("far asks a, " + n, x.now(4), n <= 6 ? 3 : 1);
            x = Kit.on(text);
            x.ask(1, 1, n);
            K.is("far asks b, " + n, x.now(4), n <= 4 ? 3 : 1);
        }
        K.is("all eight", Kit.on(Kit.persons(8, "near", "far")).now(4), 255);
        K.is("wherever he is", Kit.on("thing a near 1;person p near near;person q far near;asks near a 1;").now(4), 0);
    }

    private static void howOftenGone() {
        BridgeToll x = Kit.on("thing a near 1;person p near far;person q far near;asks far a 1;");
        K.is("nobody yet", x.now(5), 0);
        x.go(0, 2);
        x.go(0, 0);
        x.go(0, 3);
        K.is("a refused one is none", x.now(5), 0);
        x.go(0, 1);
        K.is("one", x.now(5), 1);
        x.go(0, 2);
        K.is("without the toll none", x.now(5), 1);
        K.is("nor for him", x.person(0, 4), 1);
        x.go(0, 0);
        K.is("back is one too", x.person(0, 4), 2);
        x.go(1, 1);
        x.go(1, 0);
        K.is("all together", x.now(5), 4);
        K.is("each by himself", x.person(1, 4), 2);
        x.days(9);
        K.is("DAYS leave it", x.now(5), 4);
    }

    private static void stayed() {
        BridgeToll x = Kit.on("thing a near 1;person p near far;person q bridge far;asks far a 1;");
        K.is("none yet", x.person(0, 2), 0);
        x.days(1);
        K.is("one", x.person(0, 2), 1);
        K.is("on the bridge too", x.person(1, 2), 1);
        x.go(1, 2);
        K.is("a refused going leaves it", x.person(1, 2), 1);
        x.go(0, 1);
        K.is("0 behind a going", x.person(0, 2), 0);
        K.is("his own alone", x.person(1, 2), 1);
        x.go(0, 2);
        x.days(1);
        Kit.live(x, 398);
        K.is("the most", x.person(0, 2), 399);
        K.is("the most", x.person(1, 2), 400);
        x.days(1);
        K.is("no DAY goes any more", x.person(1, 2), 400);
    }

    /** An object is used for at most 512 calls: the last of them is still due. */
    private static void fiveHundredAndTwelveCalls() {
        BridgeToll x = new BridgeToll();
        // "person ab near far; ", "crossed = 505       "
        x.feed(0x70657273, 0x6f6e2061, 0x62206e65, 0x61722066, 0x61723b20);
        x.bridge();
        for (int i = 1; i <= 505; i++) {
            K.is("going " + i, x.go(0, i % 2), 0);
        }
        x.feed(0x63726f73, 0x73656420, 0x3d203530, 0x35202020, 0x20202020);
        K.is("call 509", x.sentence(), 1);
        K.is("call 510", x.said(-1), 1);
        K.is("call 511", x.undo(), 7);
        K.is("call 512", x.person(0, 4), 504);
    }
}
