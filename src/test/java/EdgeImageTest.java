/** Promises 39 and 40, edge by edge. */
public final class EdgeImageTest {
    private static final Kit K = new Kit();
    private static final int[] PLACES = {Integer.MIN_VALUE, -2, -1, 0, 1, 2, 3, Integer.MAX_VALUE};

    public static void main(String[] args) {
        whichPlaces();
        nothingIsKeptThere();
        allThatIsSo();
        ofTheEmptyBridge();
        theLaterOne();
        nothingCanBeUndone();
        whatStays();
        K.close();
    }

    private static void whichPlaces() {
        for (int k : PLACES) {
            BridgeToll x = Kit.on(Kit.TOWN);
            boolean isPlace = k == 0 || k == 1;
            K.is("restore(" + k + ") ahead of any", x.restore(k), false);
            K.is("image(" + k + ")", x.image(k), isPlace);
            K.is("restore(" + k + ")", x.restore(k), isPlace);
            K.is("restore of the other place", x.restore(0) && x.restore(1), false);
        }
    }

    /** A restore() that is false changes nothing. */
    private static void nothingIsKeptThere() {
        for (int k : PLACES) {
            BridgeToll x = Kit.on(Kit.TOWN);
            x.days(3);
            x.go(2, 1);
            if (k == 0 || k == 1) {
                x.image(1 - k);
            }
            x.ask(1, 2, 9);
            Kit.sentence(x, "bridge");
            String before = Kit.seen(x);
            K.is("restore(" + k + ")", x.restore(k), false);
            K.is("nothing changes", Kit.seen(x).equals(before), true);
            K.is("nor the SENTENCE", x.said(-1), 3);
            K.is("nor what can be undone", x.undo(), 2);
        }
    }

    private static void allThatIsSo() {
        BridgeToll x = Kit.on(Kit.TOWN);
        x.days(4);
        x.go(2, 1);
        x.part(0);
        x.join(3, 1);
        x.trade(0, 0, 1, 2);
        x.ask(0, 3, 12);
        x.days(2);
        Kit.sentence(x, "crossed > 0");
        String first = Kit.seen(x);
        K.is("kept", x.image(0), true);
        K.is("it goes on as it was", Kit.seen(x).equals(first), true);
        Kit.bridge(x, Kit.things(6) + Kit.persons(8, "far", "near") + "meets pa ph;asks near tf 12;has ph tf 12;");
        x.days(60);
        String second = Kit.seen(x);
        K.is("kept", x.image(1), true);
        for (int i = 0; i < 2; i++) {
            K.is("restored", x.restore(0), true);
            K.is("all as kept", Kit.seen(x).equals(first), true);
            K.is("the SENTENCE", x.said(0), 2);
            K.is("its PERSONS alone", x.said(-1), 1);
            x.drawn(60, i);
            Kit.sentence(x, "far");
            K.is("restored", x.restore(1), true);
            K.is("all as kept", Kit.seen(x).equals(second), true);
            K.is("no SENTENCE", x.said(-1), -1);
            x.drawn(60, i);
            Kit.sentence(x, "near");
        }
        K.is("NAMES too", x.restore(0) && Kit.book(x, "ann goes bridge;", 0) == 0, true);
        K.is("NAMES too", x.restore(1) && Kit.book(x, "ph goes bridge;", 0) == -1, true);
    }

    private static void ofTheEmptyBridge() {
        BridgeToll x = new BridgeToll();
        x.days(9);
        K.is("kept", x.image(1), true);
        Kit.bridge(x, Kit.TOWN);
        K.is("restored", x.restore(1), true);
        K.is("no THINGS", x.count(0), 0);
        K.is("no PERSONS", x.count(1), 0);
        K.is("the DAY", x.now(0), 9);
        K.is("place 0 is empty", x.restore(0), false);
    }

    private static void theLaterOne() {
        BridgeToll x = Kit.on(Kit.TOWN);
        for (int i = 0; i < 4; i++) {
            x.days(5);
            x.image(i % 2);
        }
        x.days(5);
        x.restore(0);
        K.is("the later one in place 0", x.now(0), 15);
        x.restore(1);
        K.is("the later one in place 1", x.now(0), 20);
        x.days(3);
        x.restore(1);
        K.is("kept apart from what goes on", x.now(0), 20);
    }

    private static void nothingCanBeUndone() {
        for (int acts = 0; acts <= 9; acts++) {
            BridgeToll x = Kit.on(Kit.TOWN);
            for (int i = 0; i < acts; i++) {
                x.days(1);
            }
            x.image(0);
            x.image(1);
            x.image(2);
            K.is("an image leaves it", x.undo(), Math.min(acts, 8) - 1);
            x.restore(0);
            K.is("nothing can be undone", x.undo(), -1);
            K.is("as kept", x.now(0), acts);
            x.days(1);
            K.is("what came since then", x.undo(), 0);
            K.is("and no more", x.undo(), -1);
        }
    }

    /** The tape, and what other calls told last. */
    private static void whatStays() {
        BridgeToll x = Kit.on("thing a far 1;person p bridge far;person q bridge far;person r near far;has q a 7;asks far a 2;");
        x.image(0);
        x.teacher(0);
        x.school();
        x.rush();
        x.pass(1);
        Kit.book(x, "day 9;r parts;", 0);
        Kit.writeNumbers(x, 5, 0, 0);
        x.laws();
        Kit.sentence(x, "number = 0 and");
        x.feed(1, 2, 3, 4, 5);
        for (int i = 0; i < 3; i++) {
            K.is("taught", x.taught(), 1);
            K.is("schooled", x.schooled(0), 1);
            K.is("schooled", x.schooled(1), 0);
            K.is("crowd", x.crowd(), 2);
            K.is("the PASS", x.byteAt(0), 'q');
            K.is("the PASS", x.byteAt(7), 'o');
            K.is("told", x.told(0), 21);
            K.is("told", x.told(1), 1);
            K.is("told", x.told(2), 9);
            K.is("told", x.told(3), 2);
            K.is("smallest", x.smallest(), 1);
            K.is("offer", x.offer(), 0);
            K.is("the FAULT", x.fault(), 1);
            K.is("the tape", x.count(2), 20);
            K.is("restore", x.restore(0), true);
            x.image(0);
        }
    }
}
