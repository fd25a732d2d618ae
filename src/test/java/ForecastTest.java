/** Promises 18 to 23 and 27 to 30. */
public final class ForecastTest {
    private static final Kit K = new Kit();

    public static void main(String[] args) {
        lacking();
        whenPaying();
        teachers();
        schools();
        schoolOfLikeOnes();
        shams();
        rushing();
        rushAtTheLastDays();
        easing();
        latestStays();
        K.close();
    }

    private static void lacking() {
        BridgeToll x = Kit.on(Kit.TOWN);
        int[][] due = {{2, 4}, {3, 0}, {2, 4}, {3, 0}};
        for (int p = 0; p < 4; p++) {
            for (int e = 0; e < 2; e++) {
                K.is("18 lacks(" + p + ", " + e + ")", x.lacks(p, e), due[p][e]);
            }
        }
        K.is("18 no person", x.lacks(4, 0), -1);
        K.is("18 no person", x.lacks(-1, 0), -1);
        K.is("18 no end", x.lacks(0, 2), -1);
        K.is("18 no end", x.lacks(0, -1), -1);
    }

    private static void whenPaying() {
        BridgeToll x = Kit.on("thing a near 9;thing b far 1;person p near far;person q bridge near;person r near near;"
                + "has r b 3;meets p r;asks far a 11;asks near a 12;");
        K.is("19 99 days", x.when(0, 1), 99);
        K.is("19 longer", x.when(0, 0), -1);
        K.is("19 never", x.when(1, 0), -1);
        x.days(7);
        K.is("19 101 days", x.when(0, 0), -1);
        x.days(1);
        K.is("19 100 days", x.when(0, 0), 100);
        K.is("19 far", x.when(0, 1), 91);
        x.ask(1, 0, 0);
        K.is("19 now", x.when(0, 1), 0);
        x.ask(1, 1, 2);
        K.is("19 by meeting", x.when(0, 1), 0);
        x.ask(1, 1, 3);
        K.is("19 as far as meeting goes", x.when(0, 1), -1);
        K.is("19 no person", x.when(3, 0), -1);
        K.is("19 no person", x.when(-1, 0), -1);
        K.is("19 no end", x.when(0, 2), -1);
        K.is("19 no end", x.when(0, -1), -1);
        BridgeToll w = Kit.on("thing a far 1;person p near far;person q far far;asks near a 5;asks far a 4;");
        for (int i = 0; i < 6; i++) {
            w.days(60);
        }
        w.days(36);
        w.go(0, 1);
        w.go(1, 1);
        w.join(0, 1);
        K.is("19 just before all are over", w.when(0, 1), 4);
        K.is("20 just before all are over", w.teacher(0), 4);
        K.is("22 just before all are over", w.school(), 4);
        K.is("19 fewer are left", w.when(0, 0), -1);
        w.ask(1, 0, 5);
        K.is("20 fewer are left", w.teacher(0), -1);
        K.is("22 fewer are left", w.school(), -1);
        K.is("19 nothing was lived", w.now(0), 396);
    }

    private static void teachers() {
        BridgeToll x = Kit.on("thing a near 3;thing b far 1;person p bridge far;person q bridge far;person r bridge near;"
                + "person s near far;person t bridge far;has q b 4;has r b 9;has t b 9;has s b 12;asks far b 4;"
                + "meets p q;meets r s;");
        K.is("20 by the least of like ones", x.teacher(0), 4);
        K.is("21 r ahead of t, though he meets s", x.taught(), 2);
        K.is("20 nobody is needed", x.teacher(1), 0);
        K.is("21 none ahead of all", x.taught(), -1);
        K.is("20 s by himself, as he has it", x.teacher(3), 0);
        K.is("21 none", x.taught(), -1);
        x.ask(0, 0, 1);
        K.is("20 nobody on the bridge has it", x.teacher(2), -1);
        K.is("21 stays", x.taught(), -1);
        K.is("20 again", x.teacher(0), 4);
        x.teacher(2);
        K.is("21 stays behind NONE", x.taught(), 2);
        K.is("20 no person", x.teacher(5), -1);
        K.is("20 no person", x.teacher(-1), -1);
        K.is("21 stays behind no person", x.taught(), 2);
        K.is("20 pairs stay as they are", x.person(0, 3), 1);
        x.ask(1, 1, 5);
        K.is("20 the best, not the one he meets", x.teacher(0), 5);
        K.is("19 by the one he meets never", x.when(0, 1), -1);
        BridgeToll y = Kit.on("thing a near 9;person p near far;asks far a 12;");
        K.is("20 longer than 100", y.teacher(0), -1);
        y.days(7);
        K.is("20 101", y.teacher(0), -1);
        y.days(1);
        K.is("20 100", y.teacher(0), 100);
        K.is("21 none", y.taught(), -1);
        BridgeToll z = Kit.on("thing a near 9;person p near far;person q near far;asks far a 12;has q a 12;");
        // By meeting he gets 11 till day 10, the twelfth by living on day 18.
        K.is("20 by q", z.teacher(0), 18);
        K.is("21 q, living beside", z.taught(), 1);
    }

    private static void schools() {
        BridgeToll x = new BridgeToll();
        K.is("22 nobody on an empty one", x.school(), 0);
        x = Kit.on(Kit.TOWN);
        K.is("22 bob can't", x.school(), -1);
        K.is("23 ahead of any", x.schooled(0), -1);
        x = Kit.on("thing a near 1;thing b far 1;person p bridge far;person q bridge near;person r bridge far;"
                + "person s bridge near;person t near near;has p a 9;has q b 5;has r a 4;has s b 9;"
                + "asks near a 3;asks far b 4;meets p t;");
        // p with q: p gets b up to 4 in 4 days, q gets a in 3; r with s: 4 and 3.
        K.is("22 4 days", x.school(), 4);
        int[] due = {1, 0, 3, 2, -1};
        for (int p = 0; p < 5; p++) {
            K.is("23 schooled(" + p + ")", x.schooled(p), due[p]);
        }
        K.is("23 no such one", x.schooled(5), -1);
        K.is("23 no such one", x.schooled(-1), -1);
        K.is("22 all meet as they did", x.person(0, 3), 4);
        x.ask(0, 0, 4);
        // r has 4 of a, by whom nobody gets more than 3; so p must teach both q and s, which can't be.
        K.is("22 by none", x.school(), -1);
        K.is("23 stays", x.schooled(0), 1);
        x.ask(0, 0, 3);
        x.ask(1, 1, 5);
        // q has 5 of b, by whom nobody gets 5 but s teaches one only.
        K.is("22 by none", x.school(), -1);
    }

    private static void schoolOfLikeOnes() {
        BridgeToll x = Kit.on("person a bridge far;person b near far;person c bridge far;person d bridge far;"
                + "person e bridge far;person f bridge near;");
        K.is("22 all can", x.school(), 0);
        int[] due = {2, -1, 0, 4, 3, -1};
        for (int p = 0; p < 6; p++) {
            K.is("23 first of like ones " + p, x.schooled(p), due[p]);
        }
        BridgeToll y = Kit.on("thing a far 1;person p bridge far;person q bridge far;person r bridge far;"
                + "has q a 2;has r a 7;asks far a 2;");
        // p needs r; q is left alone.
        K.is("22 2 days", y.school(), 2);
        K.is("23 p by r", y.schooled(0), 2);
        K.is("23 q by none", y.schooled(1), -1);
        K.is("23 r", y.schooled(2), 0);
        BridgeToll z = Kit.on("thing a far 1;person p bridge far;person q bridge far;has p a 1;asks far a 12;has q a 12;");
        K.is("22 p never gets 12", z.school(), -1);
        z.ask(1, 0, 11);
        K.is("22 10", z.school(), 10);
        K.is("23", z.schooled(1), 0);
    }

    private static void shams() {
        BridgeToll x = Kit.on(Kit.TOWN);
        int[] due = {0, 8, 1, 0};
        for (int p = 0; p < 4; p++) {
            K.is("27 sham(" + p + ")", x.sham(p), due[p]);
        }
        K.is("27 no person", x.sham(4), -1);
        K.is("27 no person", x.sham(-1), -1);
        K.is("27 without things all pass", Kit.on("person a near far;person b near far;person c far far;").sham(1), 5);
    }

    private static void rushing() {
        BridgeToll x = new BridgeToll();
        K.is("29 ahead of any", x.crowd(), -1);
        K.is("28 nobody", x.rush(), 0);
        K.is("29 nobody", x.crowd(), 0);
        x = Kit.on("person p near far;person q far near;person r bridge far;person s far far;");
        K.is("28 free tolls", x.rush(), 1);
        K.is("29 r is over by then", x.crowd(), 2);
        K.is("28 nobody went", x.now(5), 0);
        x = Kit.on("person r bridge far;person s far far;");
        K.is("28 today", x.rush(), 0);
        K.is("29 none is left there", x.crowd(), 0);
        x = Kit.on("thing a far 1;person p near far;person q far near;asks far a 2;has q a 5;meets p q;");
        // Today both are on the bridge; q goes on the first day, after p got 1 today; so p is left there.
        K.is("28 he is left", x.rush(), -1);
        K.is("29 both", x.crowd(), 2);
        x.ask(1, 0, 1);
        K.is("28 p learned on the bridge today", x.rush(), 1);
        x = Kit.on("thing a near 9;person p near near;person q bridge near;has p a 1;asks near a 12;meets p q;");
        K.is("28 never", x.rush(), -1);
        K.is("29 of the days looked at", x.crowd(), 1);
        x = Kit.on("thing a far 9;person p bridge far;person q bridge near;asks far a 11;asks near a 12;has q a 12;meets p q;");
        K.is("28 q goes at once", x.rush(), -1);
        K.is("29 p stays", x.crowd(), 1);
    }

    private static void rushAtTheLastDays() {
        BridgeToll x = Kit.on("person p near far;person q near far;");
        for (int i = 0; i < 6; i++) {
            x.days(60);
        }
        x.days(38);
        K.is("28 day 398", x.rush(), 1);
        x.days(1);
        K.is("28 not beyond day 399", x.rush(), -1);
        K.is("29 day 399", x.crowd(), 2);
        x.go(0, 1);
        x.go(1, 1);
        K.is("28 on day 399", x.rush(), 0);
        x.days(1);
        K.is("28 all are over", x.rush(), -1);
        K.is("29 none was looked at", x.crowd(), 0);
    }

    private static void easing() {
        BridgeToll x = Kit.on("thing a near 1;thing b far 1;thing c far 1;person p bridge far;person q bridge far;"
                + "person r bridge near;person s near far;has p a 5;has q a 2;has q b 7;has p b 6;"
                + "asks far a 4;asks far b 8;asks far c 1;asks near a 3;");
        K.is("30 the poorest of each", x.eased(1), 2 + 2 + 1);
        K.is("30 near", x.eased(0), 3);
        K.is("30 no end", x.eased(2), -1);
        K.is("30 no end", x.eased(-1), -1);
        x.ask(1, 0, 0);
        x.ask(1, 1, 6);
        x.ask(1, 2, 0);
        K.is("30 nothing", x.eased(1), 0);
        K.is("30 nobody on the bridge", Kit.on("thing a near 1;person s near far;asks far a 9;").eased(1), 0);
    }

    private static void latestStays() {
        BridgeToll x = Kit.on("thing a far 1;person p bridge far;person q bridge far;has q a 7;asks far a 2;");
        x.teacher(0);
        x.school();
        x.rush();
        x.image(0);
        Kit.bridge(x, "person z near near;person y near near;person v far far;");
        K.is("21 stays", x.taught(), 1);
        K.is("23 stays", x.schooled(0), 1);
        K.is("29 stays", x.crowd(), 1);
        x.restore(0);
        K.is("21 stays", x.taught(), 1);
        K.is("23 stays", x.schooled(1), 0);
        K.is("29 stays", x.crowd(), 1);
        Kit.bridge(x, "");
        K.is("23 stays without PERSONS", x.schooled(0), 1);
        K.is("23 stays without PERSONS", x.schooled(1), 0);
        K.is("23 no such one then", x.schooled(2), -1);
        K.is("23 no such one", x.schooled(8), -1);
        K.is("23 no such one", x.schooled(-1), -1);
        K.is("22 nobody", x.school(), 0);
        K.is("23 nobody by the latest", x.schooled(0), -1);
    }
}
