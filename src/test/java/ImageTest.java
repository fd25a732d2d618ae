/** Promises 39 and 40. */
public final class ImageTest {
    private static final Kit K = new Kit();

    public static void main(String[] args) {
        BridgeToll x = Kit.on(Kit.TOWN);
        K.is("39 no place", x.image(2), false);
        K.is("39 no place", x.image(-1), false);
        K.is("40 no place", x.restore(2), false);
        K.is("40 no place", x.restore(-1), false);
        K.is("40 nothing is kept", x.restore(0), false);
        x.days(2);
        K.is("40 a false one leaves undo", x.restore(1), false);
        K.is("40 a false one leaves undo", x.undo(), 0);
        x.days(4);
        Kit.sentence(x, "bridge");
        String first = Kit.seen(x);
        K.is("39", x.image(0), true);
        K.is("39 undo stays", x.undo(), 0);
        x.days(9);
        Kit.sentence(x, "far");
        String second = Kit.seen(x);
        K.is("39", x.image(1), true);
        Kit.bridge(x, "thing z near 1;person y far near;");
        x.days(3);
        Kit.write(x, "abc");
        K.is("40", x.restore(0), true);
        K.is("40 as kept", Kit.seen(x).equals(first), true);
        K.is("40 the sentence", x.said(-1), 2);
        K.is("40 nothing can be undone", x.undo(), -1);
        K.is("40 the tape stays", x.count(2), 3);
        x.end(0);
        x.go(2, 1);
        x.days(5);
        K.is("40", x.restore(1), true);
        K.is("40 as kept", Kit.seen(x).equals(second), true);
        K.is("40 the sentence", x.said(0), 3);
        K.is("40 again", x.restore(0), true);
        K.is("40 as kept", Kit.seen(x).equals(first), true);
        overwritten();
        withoutSentence();
        latestStays();
        K.close();
    }

    private static void overwritten() {
        BridgeToll x = Kit.on(Kit.TOWN);
        x.image(1);
        x.days(5);
        x.image(1);
        x.days(5);
        x.restore(1);
        K.is("39 the later one", x.now(0), 5);
        x.ask(1, 2, 9);
        K.is("39 apart from what is done later", x.restore(1), true);
        K.is("39 apart from what is done later", x.asks(1, 2), 3);
        K.is("40 place 0 is empty", x.restore(0), false);
    }

    private static void withoutSentence() {
        BridgeToll x = Kit.on(Kit.TOWN);
        x.image(0);
        Kit.sentence(x, "far");
        x.restore(0);
        K.is("40 there was no sentence", x.said(-1), -1);
        BridgeToll y = new BridgeToll();
        y.image(0);
        Kit.bridge(y, Kit.TOWN);
        y.restore(0);
        K.is("40 the empty bridge", y.count(1), 0);
        K.is("40 the empty bridge", y.count(0), 0);
    }

    private static void latestStays() {
        BridgeToll x = Kit.on(Kit.TOWN);
        x.image(0);
        Kit.book(x, "day 7;cid parts;", 0);
        Kit.sentence(x, "((");
        Kit.writeNumbers(x, 3, 3, 1, 0, 0);
        x.laws();
        x.pass(3);
        x.rush();
        x.restore(0);
        K.is("40 fault stays", x.fault(), 1);
        K.is("40 told stays", x.told(0), 21);
        K.is("40 told stays", x.told(2), 7);
        K.is("40 smallest stays", x.smallest(), 4);
        K.is("40 offer stays", x.offer(), 1);
        K.is("40 pass stays", x.byteAt(0), 'd');
        K.is("40 crowd stays", x.crowd(), 3);
    }
}
