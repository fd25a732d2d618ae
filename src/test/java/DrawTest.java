/** Promises 33 and 34: the draws are done again by calls of the face. */
public final class DrawTest {
    private static final Kit K = new Kit();
    private static int x;

    public static void main(String[] args) {
        wrongOnes();
        String[] towns = {Kit.TOWN, "person a near far;", "person a bridge near;person b bridge far;person c far near;",
            "thing g near 1;thing h far 2;person a near far;person b far near;person c near far;person d bridge far;"
                + "asks far g 2;asks near h 1;meets a c;"};
        int[] seeds = {0, 1, -1, 7, 12345, Integer.MAX_VALUE, Integer.MIN_VALUE, 99, -77777};
        for (String town : towns) {
            for (int seed : seeds) {
                compare(town, seed, 1);
                compare(town, seed, 25);
                odds(town, seed, 7);
                odds(town, seed, 1);
            }
            odds(town, Integer.MAX_VALUE - 2, 6);
        }
        nearTheEnd();
        K.close();
    }

    private static void wrongOnes() {
        BridgeToll b = new BridgeToll();
        K.is("33 no persons", b.drawn(1, 1), -1);
        K.is("34 no persons", b.odds(0, 1, 1), -1);
        b = Kit.on(Kit.TOWN);
        K.is("33 0", b.drawn(0, 1), -1);
        K.is("33 61", b.drawn(61, 1), -1);
        K.is("33 60", b.drawn(60, 1), 60);
        K.is("34 no person", b.odds(4, 1, 1), -1);
        K.is("34 no person", b.odds(-1, 1, 1), -1);
        K.is("34 0", b.odds(0, 0, 1), -1);
        K.is("34 31", b.odds(0, 31, 1), -1);
        K.is("34 30", b.odds(3, 30, 1) >= 0, true);
    }

    private static int draw(int n) {
        x = x * 1103515245 + 12345;
        return (x >>> 8) % n;
    }

    private static void byHand(BridgeToll b, int days, int seed) {
        x = seed;
        for (int d = 0; d < days && b.now(0) < 400; d++) {
            for (int p = 0; p < b.count(1); p++) {
                int way = b.person(p, 1) == 1 ? 1 : -1;
                int what = draw(5);
                if (what == 0) {
                    b.go(p, b.person(p, 0) + way);
                } else if (what == 1) {
                    b.go(p, b.person(p, 0) - way);
                } else if (what == 2) {
                    b.join(p, draw(b.count(1)));
                } else if (what == 3) {
                    b.part(p);
                }
            }
            b.days(1);
        }
    }

    private static void compare(String town, int seed, int days) {
        BridgeToll a = Kit.on(town);
        BridgeToll b = Kit.on(town);
        K.is("33 drawn", a.drawn(days, seed), days);
        byHand(b, days, seed);
        K.is("33 as by hand, seed " + seed, Kit.seen(a).equals(Kit.seen(b)), true);
    }

    private static void odds(String town, int seed, int n) {
        BridgeToll a = Kit.on(town);
        a.days(2);
        for (int p = 0; p < a.count(1); p++) {
            int times = 0;
            for (int i = 0; i < n; i++) {
                BridgeToll b = Kit.on(town);
                b.days(2);
                byHand(b, 20, seed + i);
                times += b.person(p, 0) == 2 * b.person(p, 1) ? 1 : 0;
            }
            K.is("34 odds", a.odds(p, n, seed), times);
        }
        K.is("34 nothing was lived", a.now(0), 2);
        K.is("34 nothing to undo but days", a.undo(), 0);
    }

    private static void nearTheEnd() {
        BridgeToll a = Kit.on(Kit.TOWN);
        BridgeToll b = Kit.on(Kit.TOWN);
        for (int i = 0; i < 6; i++) {
            a.days(60);
            b.days(60);
        }
        a.days(30);
        b.days(30);
        K.is("33 fewer are left", a.drawn(20, 5), 10);
        byHand(b, 20, 5);
        K.is("33 as by hand", Kit.seen(a).equals(Kit.seen(b)), true);
        String before = Kit.seen(a);
        K.is("33 all are over", a.drawn(20, 5), 0);
        K.is("33 nothing is drawn then", Kit.seen(a).equals(before), true);
        K.is("34 who is there stays there", a.odds(0, 5, 1), a.person(0, 0) == 2 ? 5 : 0);
    }
}
