/** Promises 24 to 26, edge by edge. */
public final class EdgeLawTest {
    private static final Kit K = new Kit();

    public static void main(String[] args) {
        aNumberOfOneToTwelve();
        oneToEightPairs();
        wholePairs();
        whichPersons();
        letByOrNot();
        nOfEachAtLeast();
        noneToo();
        howManySets();
        theSmallest();
        theOffer();
        latestAboveNone();
        asItWasThen();
        K.close();
    }

    private static int laws(BridgeToll x, int... bytes) {
        Kit.writeNumbers(x, bytes);
        int n = x.laws();
        K.is("the tape is empty then", x.count(2), 0);
        return n;
    }

    private static BridgeToll two() {
        return Kit.on("thing a near 1;thing b far 1;person p near far;person q near far;has p a 12;has p b 12;");
    }

    private static void aNumberOfOneToTwelve() {
        for (int n : new int[] {0, 1, 2, 11, 12, 13, 14, 127, 128, 255}) {
            K.is("n " + n, laws(two(), n, 0, 1), n >= 1 && n <= 12 ? 4 : -1);
        }
    }

    private static void oneToEightPairs() {
        for (int pairs = 0; pairs <= 12; pairs++) {
            int[] bytes = new int[1 + 2 * pairs];
            bytes[0] = 3;
            for (int i = 2; i < bytes.length; i += 2) {
                bytes[i] = 1;
            }
            K.is(pairs + " pairs", laws(two(), bytes), pairs >= 1 && pairs <= 8 ? 4 : -1);
        }
        int[] all = new int[939];
        java.util.Arrays.fill(all, 1);
        K.is("a full tape", laws(two(), all), -1);
    }

    private static void wholePairs() {
        K.is("no byte", laws(two()), -1);
        K.is("n alone", laws(two(), 3), -1);
        K.is("half a pair", laws(two(), 3, 0), -1);
        K.is("a pair and a half", laws(two(), 3, 0, 1, 0), -1);
        K.is("two pairs", laws(two(), 3, 0, 1, 0, 1), 4);
        int[] bytes = new int[18];
        bytes[0] = 3;
        for (int i = 2; i < 18; i += 2) {
            bytes[i] = 1;
        }
        bytes[17] = 0;
        K.is("eight pairs and a half", laws(two(), bytes), -1);
        bytes = new int[16];
        bytes[0] = 3;
        for (int i = 2; i < 16; i += 2) {
            bytes[i] = 1;
        }
        K.is("seven pairs and a half", laws(two(), bytes), -1);
    }

    private static void whichPersons() {
        for (int persons : new int[] {0, 1, 2, 7, 8}) {
            for (int p : new int[] {0, 1, 2, 6, 7, 8, 9, 127, 128, 255}) {
                BridgeToll x = Kit.on(Kit.things(1) + Kit.persons(persons, "near", "far"));
                K.is("PERSON " + p + " of " + persons, laws(x, 1, p, 0), p < persons ? 1 : -1);
                if (persons > 0) {
                    K.is("as the second one", laws(x, 1, 0, 0, p, 0), p < persons ? 1 : -1);
                }
            }
        }
    }

    private static void letByOrNot() {
        for (int by : new int[] {0, 1, 2, 3, 128, 255}) {
            K.is("let by " + by, laws(two(), 3, 1, by), by == 0 ? 3 : by == 1 ? 1 : -1);
            K.is("the second one let by " + by, laws(two(), 3, 0, 1, 1, by), by == 0 ? 3 : by == 1 ? 1 : -1);
        }
        // What is wrong counts, though no set would be left by what is ahead of it.
        K.is("not as told behind what can't be", laws(two(), 3, 1, 0, 1, 1, 1, 2), -1);
        K.is("one who was let by and was not", laws(two(), 3, 1, 0, 1, 1), 0);
        K.is("the same twice", laws(two(), 3, 1, 0, 1, 0), 3);
    }

    /** Who have n of each of these, at least. */
    private static void nOfEachAtLeast() {
        for (int has = 0; has <= 12; has++) {
            for (int n = 1; n <= 12; n++) {
                BridgeToll x = Kit.on("thing a near 1;person p near far;" + (has > 0 ? "has p a " + has + ";" : ""));
                K.is(has + " where " + n + " are asked, let by", laws(x, n, 0, 1), has >= n ? 2 : 1);
                K.is("the smallest is none", x.smallest(), 0);
                K.is(has + " where " + n + " are asked, not let by", laws(x, n, 0, 0), has >= n ? 0 : 1);
                K.is("the smallest", x.smallest(), has >= n ? 0 : 1);
            }
        }
    }

    private static void noneToo() {
        BridgeToll x = Kit.on("person p near far;");
        K.is("no THINGS: nothing is asked", laws(x, 1, 0, 1), 1);
        K.is("the smallest", x.smallest(), 0);
        K.is("the OFFER", x.offer(), 0);
        K.is("no THINGS: nobody is kept out", laws(x, 1, 0, 0), 0);
        x = two();
        K.is("who has nothing was let by", laws(x, 1, 1, 1), 1);
        K.is("the smallest is none", x.smallest(), 0);
    }

    private static void howManySets() {
        for (int things = 0; things <= 6; things++) {
            StringBuilder text = new StringBuilder(Kit.things(things)).append(Kit.persons(2, "near", "far"));
            for (int t = 0; t < things; t++) {
                text.append("has pa t").append((char) ('a' + t)).append(" 5;");
            }
            BridgeToll x = Kit.on(text.toString());
            K.is("all sets of " + things, laws(x, 5, 0, 1), 1 << things);
            K.is("all but none", laws(x, 5, 1, 0), (1 << things) - 1);
            K.is("all but none, as he has 5 alone", laws(x, 6, 0, 0), (1 << things) - 1);
        }
    }

    /** The fewest THINGS, of like ones the least as bits. */
    private static void theSmallest() {
        String three = Kit.things(3) + Kit.persons(4, "near", "far");
        BridgeToll x = Kit.on(three + "has pa ta 5;has pb tb 5;has pc tc 5;has pd ta 5;has pd tb 5;has pd tc 5;");
        K.is("one of b, c or more", laws(x, 5, 0, 0), 6);
        K.is("b ahead of c", x.smallest(), 2);
        K.is("two at least", laws(x, 5, 0, 0, 1, 0, 2, 0), 4);
        K.is("a and b ahead of a and c", x.smallest(), 3);
        K.is("just a, or none", laws(x, 5, 0, 1), 2);
        K.is("none ahead of a", x.smallest(), 0);
        x = Kit.on(three + "has pa ta 5;has pa tb 5;");
        K.is("c, or more", laws(x, 5, 0, 0), 4);
        K.is("c alone ahead of a and c", x.smallest(), 4);
        // 4 is more as bits than 3, but the fewest THINGS come first.
        x = Kit.on(three + "has pa ta 5;has pb tb 5;has pc ta 5;has pc tb 5;");
        K.is("c, or a and b, or more", laws(x, 5, 0, 0, 1, 0), 5);
        K.is("c ahead of a and b", x.smallest(), 4);
        x = Kit.on(Kit.things(6) + "person p near far;has p ta 1;has p tb 1;has p tc 1;has p td 1;has p te 1;");
        K.is("the last THING", laws(x, 1, 0, 0), 32);
        K.is("the last THING", x.smallest(), 32);
    }

    /** By whom the greatest number that may still be left is the least; of like ones the first. */
    private static void theOffer() {
        String three = Kit.things(3) + Kit.persons(4, "near", "far");
        BridgeToll x = Kit.on(three + "has pb ta 5;has pb tb 5;has pc tb 5;has pd ta 5;has pd tb 5;has pd tc 5;");
        K.is("all sets", laws(x, 5, 3, 1), 8);
        // By pa 1 or 7, by pb 4 or 4, by pc 2 or 6, by pd 8 or 0.
        K.is("half and half", x.offer(), 1);
        x = Kit.on(three + "has pa ta 5;has pb tb 5;has pc ta 5;has pd ta 5;has pd tb 5;has pd tc 5;");
        K.is("all sets", laws(x, 5, 3, 1), 8);
        K.is("the first of three like ones", x.offer(), 0);
        x = Kit.on(three);
        K.is("none alone", laws(x, 5, 3, 1), 1);
        K.is("the first, though he tells nothing", x.offer(), 0);
        x = Kit.on(Kit.things(2) + Kit.persons(8, "near", "far") + "has ph ta 5;");
        K.is("one THING at least", laws(x, 5, 0, 0), 3);
        K.is("the last PERSON", x.offer(), 7);
    }

    private static void latestAboveNone() {
        BridgeToll x = Kit.on(Kit.things(3) + Kit.persons(3, "near", "far") + "has pb ta 5;has pb tb 5;");
        K.is("ahead of any", x.smallest(), -1);
        K.is("ahead of any", x.offer(), -1);
        K.is("not as told", laws(x, 0), -1);
        K.is("none is left", laws(x, 5, 0, 1, 0, 0), 0);
        K.is("still ahead of any", x.smallest(), -1);
        K.is("still ahead of any", x.offer(), -1);
        K.is("c, or more", laws(x, 5, 1, 0), 4);
        K.is("the smallest", x.smallest(), 4);
        K.is("the OFFER", x.offer(), 0);
        K.is("all but none", laws(x, 5, 0, 0), 7);
        K.is("the smallest", x.smallest(), 1);
        K.is("the OFFER", x.offer(), 1);
        K.is("none is left", laws(x, 5, 0, 1, 0, 0), 0);
        K.is("not as told", laws(x, 13, 0, 0), -1);
        K.is("the latest above 0", x.smallest(), 1);
        K.is("the latest above 0", x.offer(), 1);
        K.is("none", laws(x, 5, 0, 1), 1);
        K.is("the smallest is none now", x.smallest(), 0);
        K.is("the OFFER is the first now", x.offer(), 0);
    }

    private static void asItWasThen() {
        BridgeToll x = Kit.on(Kit.things(2) + Kit.persons(3, "near", "far") + "has pc ta 5;");
        laws(x, 5, 0, 0);
        K.is("by what they had", x.offer(), 2);
        x.days(60);
        K.is("though all have more now", x.offer(), 2);
        K.is("the smallest", x.smallest(), 1);
        x.undo();
        Kit.bridge(x, "");
        K.is("though nobody is there now", x.offer(), 2);
        K.is("the smallest", x.smallest(), 1);
    }
}
