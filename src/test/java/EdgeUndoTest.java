/** Promise 17, edge by edge: which acts are kept, how many, and what undoing leaves. */
public final class EdgeUndoTest {
    private static final Kit K = new Kit();

    public static void main(String[] args) {
        eightAreKept();
        eachActByItself();
        refusedOnesAreNone();
        whatIsNoAct();
        daysOfNone();
        undoneIsGone();
        whatUndoingLeaves();
        forgotten();
        K.close();
    }

    /** How many more can be: 7 behind eight acts, behind nine of them, behind twenty. */
    private static void eightAreKept() {
        for (int acts = 0; acts <= 20; acts++) {
            BridgeToll x = Kit.on("thing a near 1;person p near far;");
            for (int i = 1; i <= acts; i++) {
                x.days(i);
            }
            int kept = Math.min(acts, 8);
            int day = acts * (acts + 1) / 2;
            for (int i = 0; i < kept; i++) {
                K.is("undo of " + acts, x.undo(), kept - i - 1);
                day -= acts - i;
                K.is("the DAY then", x.now(0), day);
                K.is("he has", x.have(0, 0), Math.min(12, day));
            }
            K.is("none is left of " + acts, x.undo(), -1);
            K.is("nothing changes", x.now(0), day);
            K.is("nor again", x.undo(), -1);
        }
    }

    private static BridgeToll town() {
        return Kit.on(Kit.TOWN);
    }

    private static void eachActByItself() {
        for (int act = 0; act < 9; act++) {
            BridgeToll x = town();
            x.days(1);
            String before = Kit.seen(x);
            int answer = switch (act) {
                case 0 -> x.go(2, 1);
                case 1 -> x.join(2, 3);
                case 2 -> x.part(0);
                case 3 -> x.trade(0, 0, 1, 2);
                case 4 -> x.ask(0, 0, 0);
                case 5 -> x.days(1) - 1;
                case 6 -> x.drawn(1, 4) - 1;
                case 7 -> Kit.book(x, "day 1;", 1) + 1;
                default -> Kit.book(x, "ask near song 7;cid goes far;", 1) - 1;
            };
            K.is("done", answer, 0);
            K.is("something changed by act " + act, Kit.seen(x).equals(before), false);
            K.is("undo", x.undo(), 1);
            K.is("as it was ahead of act " + act, Kit.seen(x).equals(before), true);
            K.is("the DAY ahead of it", x.undo(), 0);
            K.is("none", x.undo(), -1);
        }
    }

    private static void refusedOnesAreNone() {
        BridgeToll x = town();
        x.ask(0, 3, 1);
        K.is("1 going", x.go(2, 2), 1);
        K.is("2 going", x.go(0, 2), 2);
        K.is("no going", x.go(0, 3), -1);
        K.is("1 joining", x.join(2, 2), 1);
        K.is("2 joining", x.join(2, 0), 2);
        K.is("no joining", x.join(2, 4), -1);
        K.is("1 parting", x.part(2), 1);
        K.is("no parting", x.part(4), -1);
        K.is("1 trading", x.trade(0, 0, 0, 0), 1);
        K.is("2 trading", x.trade(0, 0, 2, 0), 2);
        K.is("3 trading", x.trade(0, 1, 1, 2), 3);
        K.is("no trading", x.trade(0, 4, 1, 2), -1);
        K.is("1 asking", x.ask(0, 0, 2), 1);
        K.is("no asking", x.ask(0, 0, 13), -1);
        K.is("no days", x.days(0), -1);
        K.is("no days", x.days(61), -1);
        K.is("none drawn", x.drawn(0, 1), -1);
        K.is("none drawn", x.drawn(61, 1), -1);
        K.is("a BOOK that is WRONG at once", Kit.book(x, "cid parts;day 1;", 1), 0);
        K.is("a BOOK without LINES", Kit.book(x, "", 1), -1);
        K.is("a BOOK with a FAULT", Kit.book(x, "day 1;day 0;", 1), -2 - 10);
        K.is("a BOOK that is judged alone", Kit.book(x, "day 1;", 0), -1);
        K.is("a BOOK of -1000", x.book(2), -1000);
        K.is("one act was done", x.undo(), 0);
        K.is("none more", x.undo(), -1);
    }

    /** Asking, looking out and keeping images are nothing that is undone. */
    private static void whatIsNoAct() {
        BridgeToll x = town();
        x.go(2, 1);
        x.image(0);
        x.when(0, 1);
        x.teacher(0);
        x.school();
        x.rush();
        x.odds(0, 5, 5);
        x.pass(0);
        Kit.sentence(x, "near");
        Kit.writeNumbers(x, 3, 3, 1);
        x.laws();
        Kit.bridge(x, "oops");
        x.restore(1);
        x.feed(1, 2, 3, 4, 5);
        x.end(0);
        K.is("the going", x.undo(), 0);
        K.is("he is near again", x.person(2, 0), 0);
    }

    private static void daysOfNone() {
        BridgeToll x = town();
        Kit.live(x, 400);
        K.is("no DAY goes", x.days(5), 0);
        K.is("none is drawn", x.drawn(5, 5), 0);
        K.is("fewer DAYS are left", Kit.book(x, "day 1;", 1), 0);
        K.is("the forty DAYS", x.undo(), 6);
        K.is("the DAY", x.now(0), 360);
        x.days(39);
        K.is("one is left", x.days(2), 1);
        K.is("it counts", x.undo(), 7);
        K.is("one is drawn", x.drawn(60, 1), 1);
        K.is("it counts", x.undo(), 7);
        K.is("the DAY", x.now(0), 399);
    }

    private static void undoneIsGone() {
        BridgeToll x = town();
        for (int i = 0; i < 8; i++) {
            x.days(1);
        }
        x.undo();
        x.undo();
        x.days(10);
        K.is("seven are kept", x.undo(), 6);
        K.is("the DAY", x.now(0), 6);
        x.days(1);
        x.days(1);
        x.days(1);
        x.days(1);
        for (int i = 7; i >= 0; i--) {
            K.is("eight are kept", x.undo(), i);
        }
        K.is("no ninth", x.undo(), -1);
        K.is("the DAY", x.now(0), 2);
    }

    /** The tape, the SENTENCE, images, and what other calls told last are no part of an act. */
    private static void whatUndoingLeaves() {
        BridgeToll x = town();
        x.teacher(0);
        x.rush();
        x.days(1);
        Kit.sentence(x, "bridge");
        x.image(0);
        Kit.book(x, "day 2;cid parts;", 1);
        x.pass(3);
        Kit.bridge(x, "thing thing");
        Kit.write(x, "abc");
        K.is("undo", x.undo(), 1);
        K.is("undo", x.undo(), 0);
        K.is("the DAY", x.now(0), 0);
        K.is("the tape", x.count(2), 3);
        K.is("the SENTENCE", x.said(-1), 2);
        K.is("told", x.told(0), 21);
        K.is("told", x.told(2), 3);
        K.is("the PASS", x.byteAt(0), 'd');
        K.is("taught", x.taught(), 1);
        K.is("crowd", x.crowd(), 3);
        K.is("the FAULT", x.fault(), 1);
        K.is("the image", x.restore(0), true);
        K.is("the image", x.now(0), 1);
    }

    private static void forgotten() {
        BridgeToll x = town();
        x.image(0);
        x.days(1);
        x.restore(0);
        K.is("nothing behind restore()", x.undo(), -1);
        x.days(1);
        Kit.bridge(x, Kit.TOWN);
        K.is("nothing behind a new BRIDGE", x.undo(), -1);
        x.days(1);
        K.is("what came since then", x.undo(), 0);
        K.is("nothing in an empty one", new BridgeToll().undo(), -1);
    }
}
