/** Promises 6 to 10. */
public final class StateTest {
    public static void main(String[] args) {
        Kit k = new Kit();
        BridgeToll x = Kit.on(Kit.TOWN);
        persons(k, x);
        things(k, x);
        now(k, x);
        k.close();
    }

    private static void persons(Kit k, BridgeToll x) {
        int[][] due = {{1, 1, 0, 1, 0, 6}, {1, 0, 0, 0, 0, 8}, {0, 1, 0, -1, 0, 3}, {2, 1, 0, -1, 0, 13}};
        for (int p = 0; p < 4; p++) {
            for (int i = 0; i < 6; i++) {
                k.is("6 person(" + p + ", " + i + ")", x.person(p, i), due[p][i]);
            }
        }
        k.throwsNoSuch("6 person(4, 0)", x, 4, 0);
        k.throwsNoSuch("6 person(-1, 0)", x, -1, 0);
        k.throwsNoSuch("6 person(0, 6)", x, 0, 6);
        k.throwsNoSuch("6 person(0, -1)", x, 0, -1);
        k.throwsNoSuch("6 person(9, 9)", x, 9, 9);
        BridgeToll y = Kit.on(Kit.TOWN);
        y.days(5);
        y.go(2, 1);
        y.days(1);
        k.is("6 stayed", y.person(2, 2), 1);
        k.is("6 stayed on the bridge", y.person(0, 2), 6);
        k.is("6 gone", y.person(2, 4), 1);
    }

    private static void things(Kit k, BridgeToll x) {
        k.is("7", x.have(3, 3), 4);
        k.is("7", x.have(0, 1), 0);
        k.is("7 no person", x.have(4, 0), -1);
        k.is("7 no person", x.have(-1, 0), -1);
        k.is("7 no thing", x.have(0, 4), -1);
        k.is("7 no thing", x.have(0, -1), -1);
        int[][] due = {{0, 2, 9}, {0, 3, 0}, {1, 1, 17}, {1, 4, 4}};
        for (int t = 0; t < 4; t++) {
            for (int i = 0; i < 3; i++) {
                k.is("8 thing(" + t + ", " + i + ")", x.thing(t, i), due[t][i]);
            }
        }
        k.is("8", x.thing(4, 0), -1);
        k.is("8", x.thing(-1, 0), -1);
        k.is("8", x.thing(0, 3), -1);
        k.is("8", x.thing(0, -1), -1);
        int[][] asked = {{2, 1, 0, 0}, {0, 0, 3, 0}};
        for (int e = 0; e < 2; e++) {
            for (int t = 0; t < 4; t++) {
                k.is("9 asks(" + e + ", " + t + ")", x.asks(e, t), asked[e][t]);
            }
        }
        k.is("9", x.asks(2, 0), -1);
        k.is("9", x.asks(-1, 0), -1);
        k.is("9", x.asks(0, 4), -1);
        k.is("9", x.asks(0, -1), -1);
    }

    private static void now(Kit k, BridgeToll x) {
        int[] due = {0, 4, 3, 8, 8, 0, 30};
        for (int i = 0; i < 7; i++) {
            k.is("10 now(" + i + ")", x.now(i), due[i]);
        }
        k.is("10", x.now(7), -1);
        k.is("10", x.now(-1), -1);
        x.go(2, 1);
        x.go(2, 0);
        k.is("10 from the bridge without the toll", x.now(5), 1);
        x.go(3, 1);
        x.go(3, 2);
        k.is("10 all goings", x.now(5), 3);
        x.days(2);
        k.is("10 day", x.now(0), 2);
        BridgeToll y = Kit.on("person a near far;person b near far;");
        y.go(0, 1);
        y.go(0, 2);
        y.go(1, 1);
        k.is("10 the first one's goings too", y.now(5), 3);
    }
}
