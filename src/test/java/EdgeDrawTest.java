/** Promises 33 and 34, edge by edge. */
public final class EdgeDrawTest {
    private static final Kit K = new Kit();
    private static final int[] SEEDS = {0, 1, -1, Integer.MAX_VALUE, Integer.MIN_VALUE, 255, 256, 0x00ffffff, 0x80000000};

    public static void main(String[] args) {
        howManyDays();
        noPersons();
        theLastDays();
        whichOdds();
        seedsThatWrap();
        oddsOfTwentyDays();
        oddsWhenFewerAreLeft();
        oddsChangeNothing();
        eachDraw();
        K.close();
    }

    /** n (1 to 60): how many went by. */
    private static void howManyDays() {
        for (int n : new int[] {Integer.MIN_VALUE, -1, 0, 1, 2, 59, 60, 61, 62, Integer.MAX_VALUE}) {
            for (int seed : SEEDS) {
                BridgeToll x = Kit.on(Kit.TOWN);
                boolean isRight = n >= 1 && n <= 60;
                String before = Kit.seen(x);
                K.is("drawn(" + n + ", " + seed + ")", x.drawn(n, seed), isRight ? n : -1);
                K.is("the DAY", x.now(0), isRight ? n : 0);
                if (!isRight) {
                    K.is("nothing changes", Kit.seen(x).equals(before), true);
                }
                K.is("then undo()", x.undo(), isRight ? 0 : -1);
                K.is("as it was", Kit.seen(x).equals(before), true);
            }
        }
    }

    private static void noPersons() {
        for (String text : new String[] {"", Kit.things(6)}) {
            BridgeToll x = Kit.on(text);
            K.is("no PERSONS", x.drawn(1, 1), -1);
            K.is("no PERSONS", x.drawn(60, 1), -1);
            K.is("no DAY went by", x.now(0), 0);
            K.is("no odds", x.odds(0, 1, 1), -1);
        }
        K.is("one PERSON", Kit.on("person p near far;").drawn(1, 1), 1);
    }

    private static void theLastDays() {
        for (int day : new int[] {339, 340, 341, 380, 398, 399, 400}) {
            for (int n : new int[] {1, 2, 60}) {
                BridgeToll x = Kit.on(Kit.TOWN);
                Kit.live(x, day);
                String before = Kit.seen(x);
                int due = Math.min(n, 400 - day);
                K.is("drawn(" + n + ") on DAY " + day, x.drawn(n, 77), due);
                K.is("the DAY", x.now(0), day + due);
                if (due == 0) {
                    K.is("nobody does anything", Kit.seen(x).equals(before), true);
                }
            }
        }
    }

    /** Of n (1 to 30) seeds. */
    private static void whichOdds() {
        int[] numbers = {Integer.MIN_VALUE, -1, 0, 1, 2, 7, 8, 9, 29, 30, 31, 32, Integer.MAX_VALUE};
        // Nobody has what either END asks, and none has it by living on the bridge.
        BridgeToll x = Kit.on(Kit.things(1) + Kit.persons(8, "bridge", "far") + "asks near ta 1;asks far ta 1;");
        for (int p : numbers) {
            for (int n : numbers) {
                boolean isRight = p >= 0 && p < 8 && n >= 1 && n <= 30;
                K.is("odds(" + p + ", " + n + ", 5)", x.odds(p, n, 5), isRight ? 0 : -1);
            }
        }
    }

    private static int draw;

    private static int drawOf(int n) {
        draw = draw * 1103515245 + 12345;
        return (draw >>> 8) % n;
    }

    /** DAYS DRAWN, by the face's own acts. */
    private static void byHand(BridgeToll x, int days, int seed) {
        draw = seed;
        for (int d = 0; d < days && x.now(0) < 400; d++) {
            for (int p = 0; p < x.count(1); p++) {
                int towards = x.person(p, 1) == 1 ? 1 : -1;
                switch (drawOf(5)) {
                    case 0 -> x.go(p, x.person(p, 0) + towards);
                    case 1 -> x.go(p, x.person(p, 0) - towards);
                    case 2 -> x.join(p, drawOf(x.count(1)));
                    case 3 -> x.part(p);
                    default -> {
                    }
                }
            }
            x.days(1);
        }
    }

    private static final String FREE = "thing a near 1;thing b far 2;person p near far;person q bridge near;person r far far;"
            + "person s far near;asks far a 3;asks near b 2;has q b 2;meets q r;";

    private static int oddsByHand(int day, int p, int n, int seed, int days) {
        int times = 0;
        for (int i = 0; i < n; i++) {
            BridgeToll x = Kit.on(FREE);
            Kit.live(x, day);
            byHand(x, days, seed + i);
            times += x.person(p, 0) == 2 * x.person(p, 1) ? 1 : 0;
        }
        return times;
    }

    /** Seeds x, x and 1, .. are ints that wrap. */
    private static void seedsThatWrap() {
        for (int seed : new int[] {Integer.MAX_VALUE - 2, Integer.MAX_VALUE, -3, Integer.MIN_VALUE, 0}) {
            BridgeToll x = Kit.on(FREE);
            for (int p = 0; p < 4; p++) {
                for (int n : new int[] {1, 2, 5, 29, 30}) {
                    K.is("odds(" + p + ", " + n + ", " + seed + ")", x.odds(p, n, seed), oddsByHand(0, p, n, seed, 20));
                }
            }
        }
    }

    /** 19 or 21 DAYS would make another number. */
    private static void oddsOfTwentyDays() {
        int unlike19 = 0;
        int unlike21 = 0;
        for (int seed = 0; seed < 8; seed++) {
            BridgeToll x = Kit.on(FREE);
            for (int p = 0; p < 4; p++) {
                int got = x.odds(p, 30, seed * 100);
                K.is("20 DAYS", got, oddsByHand(0, p, 30, seed * 100, 20));
                unlike19 += got != oddsByHand(0, p, 30, seed * 100, 19) ? 1 : 0;
                unlike21 += got != oddsByHand(0, p, 30, seed * 100, 21) ? 1 : 0;
            }
        }
        K.is("the seeds tell 20 DAYS from 19", unlike19 > 0, true);
        K.is("the seeds tell 20 DAYS from 21", unlike21 > 0, true);
    }

    private static void oddsWhenFewerAreLeft() {
        for (int day : new int[] {379, 380, 381, 399, 400}) {
            BridgeToll x = Kit.on(FREE);
            Kit.live(x, day);
            for (int p = 0; p < 4; p++) {
                K.is("odds on DAY " + day, x.odds(p, 30, 9), oddsByHand(day, p, 30, 9, 20));
            }
        }
        BridgeToll x = Kit.on(FREE);
        Kit.live(x, 400);
        int[] due = {0, 0, 30, 0};
        for (int p = 0; p < 4; p++) {
            K.is("where he is when all are over", x.odds(p, 30, 9), due[p]);
        }
    }

    private static void oddsChangeNothing() {
        BridgeToll x = Kit.on(FREE);
        x.days(3);
        String before = Kit.seen(x);
        x.odds(0, 30, 1);
        x.odds(0, 31, 1);
        K.is("all stays", Kit.seen(x).equals(before), true);
        K.is("what can be undone stays", x.undo(), 0);
    }

    /** A seed for each first draw, and for each PERSON whom the first one may draw. */
    private static void eachDraw() {
        int[] seen = new int[5];
        int[] drawn = new int[4];
        for (int seed = -40; seed < 40; seed++) {
            draw = seed;
            int what = drawOf(5);
            seen[what]++;
            if (what == 2) {
                drawn[drawOf(4)]++;
            }
            for (int days = 1; days <= 3; days++) {
                BridgeToll x = Kit.on(FREE);
                BridgeToll y = Kit.on(FREE);
                K.is("drawn", x.drawn(days, seed), days);
                byHand(y, days, seed);
                K.is("as by hand, seed " + seed, Kit.seen(x).equals(Kit.seen(y)), true);
            }
        }
        for (int i = 0; i < 5; i++) {
            K.is("each way was drawn", seen[i] > 0, true);
        }
        for (int i = 0; i < 4; i++) {
            K.is("each PERSON was drawn, himself too", drawn[i] > 0, true);
        }
    }
}
