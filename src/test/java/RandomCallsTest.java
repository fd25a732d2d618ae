import java.util.NoSuchElementException;
import java.util.Random;

/** Calls by chance, with arguments of every size: nothing but what is promised is ever thrown, and undo goes back. */
public final class RandomCallsTest {
    private static final Kit K = new Kit();

    public static void main(String[] args) {
        Random r = new Random(512);
        for (int run = 0; run < 600; run++) {
            BridgeToll x = new BridgeToll();
            if (r.nextInt(4) > 0) {
                Kit.bridge(x, RandomTown.text(r, r.nextBoolean()));
            }
            for (int i = 0; i < 400; i++) {
                call(r, x);
            }
            undoGoesBack(r, x);
        }
        K.close();
    }

    private static int number(Random r) {
        int kind = r.nextInt(10);
        if (kind < 7) {
            return r.nextInt(9);
        }
        if (kind == 7) {
            return r.nextInt(80) - 10;
        }
        return kind == 8 ? r.nextInt() : r.nextBoolean() ? Integer.MIN_VALUE : Integer.MAX_VALUE;
    }

    private static void call(Random r, BridgeToll x) {
        int a = number(r);
        int b = number(r);
        int c = number(r);
        int d = number(r);
        try {
            if (r.nextInt(8) == 0) {
                text(r, x);
            } else if (r.nextBoolean()) {
                act(r, x, a, b, c, d);
            } else {
                look(r, x, a, b, c);
            }
        } catch (RuntimeException e) {
            K.is("threw " + e, 1, 0);
        }
        K.is("called", 0, 0);
    }

    private static void text(Random r, BridgeToll x) {
        x.end(0);
        switch (r.nextInt(6)) {
            case 0 -> Kit.write(x, "day " + r.nextInt(62) + ";pa goes bridge;pb joins pa;pa parts;pa trades ta pb tb;");
            case 1 -> Kit.write(x, "not (met or all > " + r.nextInt(50) + ") and pays far");
            case 2 -> Kit.write(x, RandomTown.text(r, true));
            case 3 -> Kit.writeNumbers(x, number(r), number(r), number(r) & 1, number(r), number(r) & 1);
            case 4 -> x.feed(r.nextInt(), r.nextInt(), r.nextInt(), r.nextInt(), r.nextInt());
            default -> x.end(number(r));
        }
        switch (r.nextInt(5)) {
            case 0 -> x.bridge();
            case 1 -> x.book(r.nextInt(2));
            case 2 -> x.sentence();
            case 3 -> x.laws();
            default -> x.book(number(r));
        }
    }

    private static void act(Random r, BridgeToll x, int a, int b, int c, int d) {
        switch (r.nextInt(12)) {
            case 0, 1 -> x.go(a, b);
            case 2 -> x.join(a, b);
            case 3 -> x.part(a);
            case 4 -> x.trade(a, b, c, d);
            case 5 -> x.ask(a, b, c);
            case 6 -> x.days(a);
            case 7 -> x.drawn(a, b);
            case 8 -> x.undo();
            case 9 -> x.image(a);
            case 10 -> x.restore(a);
            default -> x.feed(a, b, c, d, a);
        }
    }

    private static void look(Random r, BridgeToll x, int a, int b, int c) {
        switch (r.nextInt(27)) {
            case 0 -> personOrNone(x, a, b);
            case 1 -> x.have(a, b);
            case 2 -> x.thing(a, b);
            case 3 -> x.asks(a, b);
            case 4 -> x.now(a);
            case 5 -> x.lacks(a, b);
            case 6 -> x.when(a, b);
            case 7 -> x.teacher(a);
            case 8 -> x.taught();
            case 9 -> x.school();
            case 10 -> x.schooled(a);
            case 11 -> x.smallest();
            case 12 -> x.offer();
            case 13 -> x.sham(a);
            case 14 -> x.rush();
            case 15 -> x.crowd();
            case 16 -> x.eased(a);
            case 17 -> x.pass(a);
            case 18 -> x.byteAt(a);
            case 19 -> x.odds(a, b, c);
            case 20 -> x.told(a);
            case 21 -> x.said(a);
            case 22 -> x.said(-1);
            case 23 -> x.count(a);
            case 24 -> x.fault();
            case 25 -> x.end(a);
            default -> x.laws();
        }
    }

    private static void personOrNone(BridgeToll x, int p, int what) {
        boolean isThere = p >= 0 && p < x.count(1) && what >= 0 && what <= 5;
        boolean threw = false;
        try {
            x.person(p, what);
        } catch (NoSuchElementException e) {
            threw = true;
        }
        K.is("6 person(" + p + ", " + what + ")", threw, !isThere);
    }

    /** Lives a BOOK of so many LINES, the last of them WRONG where fewer DAYS are left: whether one was lived. */
    private static boolean livesSome(BridgeToll x, int lines) {
        x.end(0);
        return Kit.book(x, Kit.times("day 9;", lines), 1) >= -1 && x.told(1) > 0;
    }

    private static void undoGoesBack(Random r, BridgeToll x) {
        x.image(0);
        x.restore(0);
        String[] was = new String[40];
        int done = 0;
        for (int i = 0; i < 30; i++) {
            String before = Kit.seen(x);
            int a = r.nextInt(8);
            boolean isDone = switch (r.nextInt(8)) {
                case 0 -> x.go(a, r.nextInt(3)) == 0;
                case 1 -> x.join(a, r.nextInt(8)) == 0;
                case 2 -> x.part(a) == 0;
                case 3 -> x.trade(a, r.nextInt(6), r.nextInt(8), r.nextInt(6)) == 0;
                case 4 -> x.ask(r.nextInt(2), r.nextInt(6), r.nextInt(13)) == 0;
                case 5 -> x.days(a) > 0;
                case 6 -> livesSome(x, a);
                default -> x.drawn(a, i) > 0;
            };
            if (isDone) {
                was[done++] = before;
            } else {
                K.is("refused changes nothing", Kit.seen(x).equals(before), true);
            }
        }
        int kept = Math.min(done, 8);
        for (int i = 1; i <= kept; i++) {
            K.is("17 how many more", x.undo(), kept - i);
            K.is("17 as it was", Kit.seen(x).equals(was[done - i]), true);
        }
        K.is("17 none is left", x.undo(), -1);
    }
}
