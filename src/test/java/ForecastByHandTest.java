import java.util.Random;

/** Promises 19 to 23 and 28 to 30 again, by trying out each way with the face's own acts and DAYS. */
public final class ForecastByHandTest {
    private static final Kit K = new Kit();

    public static void main(String[] args) {
        Random r = new Random(2026);
        for (int round = 0; round < 400; round++) {
            BridgeToll x = Kit.on(RandomTown.text(r, round % 3 == 0));
            if (round % 4 == 1) {
                x.drawn(1 + r.nextInt(40), r.nextInt());
            }
            if (round % 10 == 7) {
                for (int i = 0; i < 6; i++) {
                    x.days(60);
                }
                x.days(1 + r.nextInt(40));
            }
            x.image(0);
            String before = Kit.seen(x);
            int persons = x.count(1);
            for (int p = 0; p < persons; p++) {
                K.is("19", x.when(p, 0), whenByHand(x, p, 0, 100));
                K.is("19", x.when(p, 1), whenByHand(x, p, 1, 100));
                teacher(x, p);
            }
            school(x);
            rush(x);
            K.is("30", x.eased(0), easedByHand(x, 0));
            K.is("30", x.eased(1), easedByHand(x, 1));
            K.is("all stays", Kit.seen(x).equals(before), true);
        }
        K.close();
    }

    /** From the state that it is in now; image 1 keeps that. */
    private static int whenByHand(BridgeToll x, int p, int e, int most) {
        x.image(1);
        int answer = -1;
        for (int d = 0; d <= most; d++) {
            if (x.lacks(p, e) == 0) {
                answer = d;
                break;
            }
            if (x.days(1) == 0) {
                break;
            }
        }
        x.restore(1);
        return answer;
    }

    private static void teacher(BridgeToll x, int p) {
        int best = -1;
        int who = -1;
        int end = x.person(p, 1);
        for (int q = -1; q < x.count(1); q++) {
            if (q == p) {
                continue;
            }
            x.part(p);
            if (q >= 0) {
                x.part(q);
                x.join(p, q);
            }
            int d = whenByHand(x, p, end, 100);
            x.restore(0);
            if (d >= 0 && (best < 0 || d < best)) {
                best = d;
                who = q;
            }
        }
        int taught = x.taught();
        K.is("20", x.teacher(p), best);
        K.is("21", x.taught(), best < 0 ? taught : who);
    }

    private static int best;
    private static int[] bestMates;

    private static void school(BridgeToll x) {
        int n = x.count(1);
        int[] mates = new int[n];
        java.util.Arrays.fill(mates, -2);
        for (int p = 0; p < n; p++) {
            if (x.person(p, 0) != 1) {
                mates[p] = -1;
            }
        }
        best = -1;
        bestMates = null;
        tryAll(x, mates, 0);
        int[] was = new int[n];
        for (int p = 0; p < n; p++) {
            was[p] = x.schooled(p);
        }
        K.is("22", x.school(), best);
        for (int p = 0; p < n; p++) {
            K.is("23", x.schooled(p), best < 0 ? was[p] : bestMates[p]);
        }
    }

    private static void tryAll(BridgeToll x, int[] mates, int p) {
        if (p == mates.length) {
            int d = schoolDays(x, mates);
            if (d >= 0 && (best < 0 || d < best || d == best && isFirst(mates, bestMates))) {
                best = d;
                bestMates = mates.clone();
            }
            return;
        }
        if (mates[p] != -2) {
            tryAll(x, mates, p + 1);
            return;
        }
        mates[p] = -1;
        tryAll(x, mates, p + 1);
        for (int q = mates.length - 1; q > p; q--) {
            if (mates[q] == -2) {
                mates[p] = q;
                mates[q] = p;
                tryAll(x, mates, p + 1);
                mates[q] = -2;
            }
        }
        mates[p] = -2;
    }

    private static boolean isFirst(int[] a, int[] b) {
        for (int p = 0; p < a.length; p++) {
            int u = a[p] < 0 ? 99 : a[p];
            int v = b[p] < 0 ? 99 : b[p];
            if (u != v) {
                return u < v;
            }
        }
        return false;
    }

    private static int schoolDays(BridgeToll x, int[] mates) {
        for (int p = 0; p < mates.length; p++) {
            x.part(p);
        }
        for (int p = 0; p < mates.length; p++) {
            if (mates[p] > p) {
                x.join(p, mates[p]);
            }
        }
        int answer = -1;
        for (int d = 0; d <= 60; d++) {
            if ((x.now(2) & ~x.now(4)) == 0) {
                answer = d;
                break;
            }
            if (x.days(1) == 0) {
                break;
            }
        }
        x.restore(0);
        return answer;
    }

    private static void rush(BridgeToll x) {
        int answer = -1;
        int crowd = 0;
        for (int d = 0; d <= 100 && x.now(0) <= 399; d++) {
            boolean over = true;
            for (int p = 0; p < x.count(1); p++) {
                int want = 2 * x.person(p, 1);
                if (x.person(p, 0) != want) {
                    x.go(p, x.person(p, 0) + (want == 2 ? 1 : -1));
                }
                over &= x.person(p, 0) == want;
            }
            crowd = Math.max(crowd, Integer.bitCount(x.now(2)));
            if (over) {
                answer = d;
                break;
            }
            x.days(1);
        }
        x.restore(0);
        K.is("28", x.rush(), answer);
        K.is("29", x.crowd(), crowd);
    }

    /** Eases THING by THING by one as long as somebody lacks it. */
    private static int easedByHand(BridgeToll x, int e) {
        int sum = 0;
        for (int t = 0; t < x.count(0); t++) {
            for (int p = 0; p < x.count(1); p++) {
                while (x.person(p, 0) == 1 && x.person(p, 1) == e && (x.lacks(p, e) >> t & 1) == 1) {
                    x.ask(e, t, x.asks(e, t) - 1);
                    sum++;
                }
            }
        }
        x.restore(0);
        return sum;
    }
}
