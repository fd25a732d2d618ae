/** Promises 11 to 16, and what Terms says of PAYING, going, joining, parting, trading, asking and of a DAY, edge by edge. */
public final class EdgeActsTest {
    private static final Kit K = new Kit();
    private static final int[] NUMBERS = {Integer.MIN_VALUE, -2, -1, 0, 1, 2, 3, 5, 6, 7, 8, 9, Integer.MAX_VALUE};
    private static final String FULL = Kit.things(6) + Kit.persons(8, "near", "far");

    public static void main(String[] args) {
        whichOnesGo();
        fromEachPlaceToEach();
        justTheToll();
        behindGoing();
        whichOnesJoin();
        whyNotJoining();
        parting();
        whichOnesTrade();
        whyNotTrading();
        lessThanTwo();
        halvesAreCut();
        twelveAtMostByTrading();
        bothAtOnce();
        whichAreAsked();
        askedJustSo();
        howManyDays();
        theLastDays();
        daysThatDivide();
        twelveAtMostByLiving();
        twoMoreOrMore();
        inOnePlace();
        livingAheadOfMeeting();
        pairByPair();
        K.close();
    }

    private static boolean isIn(int n, int size) {
        return n >= 0 && n < size;
    }

    private static void whichOnesGo() {
        for (int p : NUMBERS) {
            for (int place : NUMBERS) {
                BridgeToll x = Kit.on(FULL);
                int due = !isIn(p, 8) || !isIn(place, 3) ? -1 : place == 1 ? 0 : 1;
                K.is("go(" + p + ", " + place + ")", x.go(p, place), due);
                K.is("then undo()", x.undo(), due == 0 ? 0 : -1);
            }
        }
        K.is("go on an empty BRIDGE", new BridgeToll().go(0, 1), -1);
        K.is("one beyond", Kit.on(Kit.persons(3, "near", "far")).go(3, 1), -1);
        K.is("the last", Kit.on(Kit.persons(3, "near", "far")).go(2, 1), 0);
    }

    /** 1: it is not next to his; 2: he comes from the bridge and could not PAY there. The least of both. */
    private static void fromEachPlaceToEach() {
        String[] places = {"near", "bridge", "far"};
        int[][] free = {{1, 0, 1}, {0, 1, 0}, {1, 0, 1}};
        int[][] asked = {{1, 0, 1}, {2, 1, 2}, {1, 0, 1}};
        for (int from = 0; from < 3; from++) {
            for (int to = 0; to < 3; to++) {
                for (int end = 0; end < 2; end++) {
                    String person = "thing a near 9;person p " + places[from] + (end == 0 ? " near;" : " far;");
                    String way = places[from] + " to " + places[to];
                    going("free, " + way, Kit.on(person), to, free[from][to]);
                    going("asked, " + way, Kit.on(person + "asks near a 1;asks far a 1;"), to, asked[from][to]);
                    // The toll of the other END is nothing to him.
                    going("near asks, " + way, Kit.on(person + "asks near a 1;"), to, to == 0 ? asked[from][to] : free[from][to]);
                    going("far asks, " + way, Kit.on(person + "asks far a 1;"), to, to == 2 ? asked[from][to] : free[from][to]);
                }
            }
        }
    }

    private static void going(String what, BridgeToll x, int to, int due) {
        int from = x.person(0, 0);
        x.days(1);
        String before = Kit.seen(x);
        K.is(what, x.go(0, to), due);
        K.is(what + ": where he is", x.person(0, 0), due == 0 ? to : from);
        K.is(what + ": STAYED", x.person(0, 2), due == 0 ? 0 : 1);
        K.is(what + ": how often", x.person(0, 4), due == 0 ? 1 : 0);
        if (due != 0) {
            K.is(what + ": nothing changes", Kit.seen(x).equals(before), true);
        }
    }

    /** Of each THING as much as is asked, at least: the first, the last, and all of them. */
    private static void justTheToll() {
        for (int t = 0; t < 6; t++) {
            String thing = "t" + (char) ('a' + t);
            for (int end = 0; end < 2; end++) {
                for (int n = 4; n <= 6; n++) {
                    BridgeToll x = Kit.on(Kit.things(6) + "person p bridge far;has p " + thing + " 5;asks "
                            + (end == 0 ? "near " : "far ") + thing + " " + n + ";");
                    K.is("5 of " + thing + " where " + n + " are asked", x.go(0, 2 * end), n <= 5 ? 0 : 2);
                    K.is("he keeps it", x.have(0, t), 5);
                }
            }
        }
        BridgeToll x = Kit.on("thing a far 1;thing b far 1;person p bridge far;has p a 12;has p b 12;asks far a 12;asks far b 12;");
        K.is("the most", x.go(0, 2), 0);
        x = Kit.on("thing a far 1;thing b far 1;person p bridge far;has p a 12;has p b 11;asks far a 12;asks far b 12;");
        K.is("one less of one of them", x.go(0, 2), 2);
    }

    private static void behindGoing() {
        BridgeToll x = Kit.on(Kit.persons(2, "near", "far") + "meets pa pb;");
        x.days(7);
        x.go(0, 1);
        K.is("they still MEET", x.person(0, 3), 1);
        K.is("they still MEET", x.person(1, 3), 0);
        K.is("the other one STAYED", x.person(1, 2), 7);
        K.is("the DAY is the same", x.now(0), 7);
    }

    private static void whichOnesJoin() {
        for (int p : NUMBERS) {
            for (int q : NUMBERS) {
                BridgeToll x = Kit.on(FULL);
                int due = !isIn(p, 8) || !isIn(q, 8) ? -1 : p == q ? 1 : 0;
                K.is("join(" + p + ", " + q + ")", x.join(p, q), due);
                K.is("then undo()", x.undo(), due == 0 ? 0 : -1);
            }
        }
        K.is("join on an empty BRIDGE", new BridgeToll().join(0, 0), -1);
    }

    /** 1: they are alike; 2: one of them meets somebody. */
    private static void whyNotJoining() {
        for (int p = 0; p < 5; p++) {
            for (int q = 0; q < 5; q++) {
                BridgeToll x = Kit.on(Kit.persons(5, "near", "far") + "meets pb pc;");
                boolean isMeeting = p == 1 || p == 2 || q == 1 || q == 2;
                int due = p == q ? 1 : isMeeting ? 2 : 0;
                String before = Kit.seen(x);
                K.is("join(" + p + ", " + q + ")", x.join(p, q), due);
                if (due == 0) {
                    K.is("he meets him", x.person(p, 3), q);
                    K.is("and he him", x.person(q, 3), p);
                } else {
                    K.is("nothing changes", Kit.seen(x).equals(before), true);
                }
            }
        }
        BridgeToll x = Kit.on("person p near far;person q far far;person r bridge far;");
        K.is("from END to END", x.join(0, 1), 0);
        x.part(0);
        K.is("from the bridge", x.join(2, 0), 0);
    }

    private static void parting() {
        for (int p : NUMBERS) {
            BridgeToll x = Kit.on(FULL + "meets pa ph;");
            int due = !isIn(p, 8) ? -1 : p == 0 || p == 7 ? 0 : 1;
            K.is("part(" + p + ")", x.part(p), due);
            K.is("whom the first meets", x.person(0, 3), due == 0 ? -1 : 7);
            K.is("whom the last meets", x.person(7, 3), due == 0 ? -1 : 0);
            K.is("again", x.part(p), due == -1 ? -1 : 1);
            K.is("then undo()", x.undo(), due == 0 ? 0 : -1);
        }
        K.is("part on an empty BRIDGE", new BridgeToll().part(0), -1);
        BridgeToll x = Kit.on(Kit.persons(4, "near", "far") + "meets pa pb;meets pc pd;");
        x.part(1);
        K.is("the other pair stays", x.person(2, 3), 3);
        K.is("the other pair stays", x.person(3, 3), 2);
        K.is("both are free", x.join(0, 1), 0);
    }

    private static void whichOnesTrade() {
        String text = "thing a near 1;thing b near 1;person p near far;person q near far;person r near far;"
                + "has p a 4;has p b 4;has q a 4;has q b 4;has r a 4;has r b 4;";
        for (int p = -1; p <= 3; p++) {
            for (int t = -1; t <= 2; t++) {
                for (int q = -1; q <= 3; q++) {
                    for (int u = -1; u <= 2; u++) {
                        BridgeToll x = Kit.on(text);
                        int due = !isIn(p, 3) || !isIn(t, 2) || !isIn(q, 3) || !isIn(u, 2) ? -1 : p == q ? 1 : 0;
                        String call = "trade(" + p + ", " + t + ", " + q + ", " + u + ")";
                        K.is(call, x.trade(p, t, q, u), due);
                        K.is("then undo()", x.undo(), due == 0 ? 0 : -1);
                    }
                }
            }
        }
        for (int wrong : new int[] {Integer.MIN_VALUE, -1, 8, Integer.MAX_VALUE}) {
            BridgeToll x = Kit.on(FULL + "has pa ta 5;has pb tb 5;");
            K.is("no such PERSON", x.trade(wrong, 0, 1, 1), -1);
            K.is("no such THING", x.trade(0, wrong, 1, 1), -1);
            K.is("no such PERSON", x.trade(0, 0, wrong, 1), -1);
            K.is("no such THING", x.trade(0, 0, 1, wrong), -1);
        }
        BridgeToll x = Kit.on(FULL + "has pa tf 5;has ph tf 2;has pa te 2;");
        K.is("THING 6 of six", x.trade(0, 6, 7, 5), -1);
        K.is("the last ones", x.trade(0, 5, 7, 5), 0);
        K.is("trade on an empty BRIDGE", new BridgeToll().trade(0, 0, 0, 0), -1);
    }

    /** The least: 1 they are alike; 2 they are not in one PLACE; 3 one of them has less than 2 of what he gives. */
    private static void whyNotTrading() {
        String[] places = {"near", "bridge", "far"};
        for (int p = 0; p < 3; p++) {
            for (int q = 0; q < 3; q++) {
                String text = "thing a near 1;thing b far 1;person p " + places[p] + " far;person q " + places[q] + " far;";
                BridgeToll x = Kit.on(text + "has p a 2;has q b 2;");
                String before = Kit.seen(x);
                K.is("alike and too little", x.trade(0, 1, 0, 1), 1);
                K.is("alike", x.trade(0, 0, 0, 0), 1);
                K.is("too little, or not in one PLACE", x.trade(0, 1, 1, 1), p == q ? 3 : 2);
                K.is("nothing changes", Kit.seen(x).equals(before), true);
                K.is("enough", x.trade(0, 0, 1, 1), p == q ? 0 : 2);
            }
        }
    }

    private static void lessThanTwo() {
        for (int mine = 0; mine <= 4; mine++) {
            for (int other = 0; other <= 4; other++) {
                BridgeToll x = Kit.on("thing a near 1;thing b far 1;person p far far;person q far far;"
                        + (mine > 0 ? "has p a " + mine + ";" : "") + (other > 0 ? "has q b " + other + ";" : ""));
                K.is(mine + " for " + other, x.trade(0, 0, 1, 1), mine < 2 || other < 2 ? 3 : 0);
            }
        }
    }

    private static void haves(String what, BridgeToll x, int pa, int pb, int qa, int qb) {
        K.is(what + ": p has of a", x.have(0, 0), pa);
        K.is(what + ": p has of b", x.have(0, 1), pb);
        K.is(what + ": q has of a", x.have(1, 0), qa);
        K.is(what + ": q has of b", x.have(1, 1), qb);
    }

    private static BridgeToll traders(int pa, int pb, int qa, int qb) {
        StringBuilder s = new StringBuilder("thing a near 1;thing b far 1;person p bridge far;person q bridge far;");
        String[] lines = {"has p a ", "has p b ", "has q a ", "has q b "};
        int[] n = {pa, pb, qa, qb};
        for (int i = 0; i < 4; i++) {
            if (n[i] > 0) {
                s.append(lines[i]).append(n[i]).append(';');
            }
        }
        return Kit.on(s.toString());
    }

    private static void halvesAreCut() {
        int[] half = {0, 0, 1, 1, 2, 2, 3, 3, 4, 4, 5, 5, 6};
        for (int mine = 2; mine <= 12; mine++) {
            for (int other = 2; other <= 12; other++) {
                BridgeToll x = traders(mine, 0, 0, other);
                K.is(mine + " for " + other, x.trade(0, 0, 1, 1), 0);
                haves(mine + " for " + other, x, mine - half[mine], half[other], half[mine], other - half[other]);
            }
        }
    }

    /** Who is given more than 12 has 12, and the giver has given all the same. */
    private static void twelveAtMostByTrading() {
        for (int given = 2; given <= 12; given++) {
            for (int had = 0; had <= 12; had++) {
                BridgeToll x = traders(2, had, 0, given);
                x.trade(0, 0, 1, 1);
                haves("p has " + had + " and is given " + given / 2, x, 1, Math.min(12, had + given / 2), 1, given - given / 2);
                x = traders(given, 0, had, 2);
                x.trade(0, 0, 1, 1);
                haves("q has " + had + " and is given " + given / 2, x, given - given / 2, 1, Math.min(12, had + given / 2), 1);
            }
        }
    }

    private static void bothAtOnce() {
        for (int mine = 2; mine <= 12; mine++) {
            for (int other = 2; other <= 12; other++) {
                BridgeToll x = traders(mine, 3, other, 5);
                K.is("one THING", x.trade(0, 0, 1, 0), 0);
                haves("one THING, " + mine + " for " + other, x, mine - mine / 2 + other / 2, 3, other - other / 2 + mine / 2, 5);
            }
        }
        BridgeToll x = traders(4, 5, 3, 6);
        x.trade(0, 0, 1, 1);
        haves("by what they had ahead", x, 2, 8, 5, 3);
        x = traders(4, 5, 3, 6);
        x.trade(1, 1, 0, 0);
        haves("told the other way round", x, 2, 8, 5, 3);
        x = traders(4, 5, 3, 6);
        x.trade(0, 1, 1, 0);
        haves("the other THINGS", x, 5, 3, 2, 8);
    }

    private static void whichAreAsked() {
        for (int e : NUMBERS) {
            for (int t : NUMBERS) {
                for (int n : new int[] {Integer.MIN_VALUE, -1, 0, 1, 11, 12, 13, 14, Integer.MAX_VALUE}) {
                    BridgeToll x = Kit.on(Kit.things(6));
                    int due = !isIn(e, 2) || !isIn(t, 6) || n < 0 || n > 12 ? -1 : n == 0 ? 1 : 0;
                    K.is("ask(" + e + ", " + t + ", " + n + ")", x.ask(e, t, n), due);
                    if (due >= 0) {
                        K.is("it is asked", x.asks(e, t), n);
                        K.is("not at the other END", x.asks(1 - e, t), 0);
                    }
                    K.is("then undo()", x.undo(), due == 0 ? 0 : -1);
                }
            }
        }
        K.is("ask on an empty BRIDGE", new BridgeToll().ask(0, 0, 0), -1);
    }

    private static void askedJustSo() {
        for (int was = 0; was <= 12; was++) {
            for (int n = 0; n <= 12; n++) {
                BridgeToll x = Kit.on("thing a near 1;thing b near 1;asks near b 7;" + (was > 0 ? "asks far a " + was + ";" : ""));
                K.is(n + " where " + was + " are asked", x.ask(1, 0, n), n == was ? 1 : 0);
                K.is("so it is", x.asks(1, 0), n);
                K.is("the other ones stay", x.asks(0, 1), 7);
                K.is("and again", x.ask(1, 0, n), 1);
            }
        }
    }

    /** n (1 to 60): how many did. */
    private static void howManyDays() {
        for (int n : new int[] {Integer.MIN_VALUE, -60, -1, 0, 1, 2, 59, 60, 61, 62, 400, Integer.MAX_VALUE}) {
            BridgeToll x = Kit.on("thing a near 1;person p near far;");
            boolean isRight = n >= 1 && n <= 60;
            K.is("days(" + n + ")", x.days(n), isRight ? n : -1);
            K.is("the DAY", x.now(0), isRight ? n : 0);
            K.is("STAYED", x.person(0, 2), isRight ? n : 0);
            K.is("then undo()", x.undo(), isRight ? 0 : -1);
        }
    }

    /** A DAY is 0 to 399; on 400 all are over. */
    private static void theLastDays() {
        for (int day : new int[] {339, 340, 341, 398, 399, 400}) {
            for (int n : new int[] {1, 2, 59, 60}) {
                BridgeToll x = Kit.on("person p near far;");
                Kit.live(x, day);
                K.is("the DAY", x.now(0), day);
                int due = Math.min(n, 400 - day);
                K.is("days(" + n + ") on DAY " + day, x.days(n), due);
                K.is("the DAY then", x.now(0), day + due);
                K.is("STAYED", x.person(0, 2), day + due);
            }
        }
        BridgeToll x = Kit.on(Kit.TOWN);
        Kit.live(x, 400);
        String before = Kit.seen(x);
        K.is("all are over", x.days(1), 0);
        K.is("nothing changes", Kit.seen(x).equals(before), true);
        K.is("still not as told", x.days(0), -1);
        K.is("still not as told", x.days(61), -1);
        K.is("going is no matter of DAYS", x.go(2, 1), 0);
        K.is("nor is parting", x.part(0), 0);
        K.is("nor joining", x.join(0, 1), 0);
        K.is("nor asking", x.ask(0, 0, 12), 0);
    }

    /** At an END, of each THING of it whose DAYS divide the DAYS that he STAYED he has 1 more. */
    private static void daysThatDivide() {
        for (int d = 1; d <= 9; d++) {
            BridgeToll x = Kit.on("thing a near " + d + ";thing b far " + d + ";person p near far;person q far near;"
                    + "person r bridge far;");
            for (int day = 1; day <= 12 * d + 1; day++) {
                x.days(1);
                int due = Math.min(12, day / d);
                haves("every " + d + " DAYS, " + day, x, due, 0, 0, due);
                K.is("on the bridge nothing", x.person(2, 5), 0);
            }
        }
        BridgeToll x = Kit.on("thing a near 3;person p near far;");
        x.days(2);
        x.go(0, 1);
        x.days(3);
        x.go(0, 0);
        x.days(2);
        K.is("since he went there alone", x.have(0, 0), 0);
        x.days(1);
        K.is("the third DAY there", x.have(0, 0), 1);
    }

    private static void twelveAtMostByLiving() {
        for (int had = 10; had <= 12; had++) {
            BridgeToll x = Kit.on("thing a near 1;person p near far;has p a " + had + ";");
            for (int day = 1; day <= 4; day++) {
                x.days(1);
                K.is("12 at most", x.have(0, 0), Math.min(12, had + day));
            }
        }
    }

    /** Of each THING of which one has 2 more than the other one, or more, the other one has 1 more. */
    private static void twoMoreOrMore() {
        for (int mine = 0; mine <= 12; mine++) {
            for (int other = 0; other <= 12; other++) {
                BridgeToll x = traders(mine, other, other, mine);
                x.join(0, 1);
                x.days(1);
                int less = Math.min(mine, other);
                int due = Math.abs(mine - other) >= 2 ? less + 1 : less;
                int p = mine < other ? due : mine;
                int q = other < mine ? due : other;
                haves(mine + " and " + other, x, p, q, q, p);
            }
        }
        BridgeToll x = traders(12, 0, 0, 0);
        x.join(1, 0);
        for (int day = 1; day <= 13; day++) {
            x.days(1);
            haves("1 a DAY till 1 is between them", x, 12, 0, Math.min(day, 11), 0);
        }
        x = traders(12, 0, 0, 12);
        x.days(5);
        haves("who do not MEET learn nothing", x, 12, 0, 0, 12);
        x.join(0, 1);
        x.days(2);
        x.part(1);
        x.days(3);
        haves("nor who do not any more", x, 12, 2, 2, 12);
    }

    private static void inOnePlace() {
        String[] places = {"near", "bridge", "far"};
        for (int p = 0; p < 3; p++) {
            for (int q = 0; q < 3; q++) {
                BridgeToll x = Kit.on("thing a near 9;thing b far 9;person p " + places[p] + " far;person q " + places[q]
                        + " far;has p a 7;meets q p;");
                x.days(1);
                K.is("from " + places[p] + " to " + places[q], x.have(1, 0), p == q ? 1 : 0);
            }
        }
    }

    private static void livingAheadOfMeeting() {
        // p has 2 more only behind his living today.
        BridgeToll x = Kit.on("thing a near 2;person p near far;person q near far;has p a 3;has q a 2;meets p q;");
        x.days(1);
        x.go(1, 1);
        x.go(1, 0);
        x.days(1);
        haves2("he learned by living ahead of it", x, 4, 3);
        // q has no more than 1 less behind his own living today.
        x = Kit.on("thing a near 2;person p near far;person q near far;has p a 3;has q a 1;meets p q;");
        x.go(1, 1);
        x.go(1, 0);
        x.go(0, 1);
        x.days(1);
        x.go(0, 0);
        x.days(1);
        haves2("he learned by living ahead of it", x, 3, 2);
    }

    private static void haves2(String what, BridgeToll x, int p, int q) {
        K.is(what + ": p", x.have(0, 0), p);
        K.is(what + ": q", x.have(1, 0), q);
    }

    private static void pairByPair() {
        BridgeToll x = Kit.on(Kit.things(1) + Kit.persons(8, "bridge", "far")
                + "has ph ta 12;has pc ta 9;has pd ta 5;has pf ta 2;meets ph pa;meets pb pg;meets pd pc;meets pe pf;");
        x.days(1);
        int[] due = {1, 0, 9, 6, 1, 2, 0, 12};
        for (int p = 0; p < 8; p++) {
            K.is("each pair once a DAY: " + p, x.have(p, 0), due[p]);
        }
    }
}
