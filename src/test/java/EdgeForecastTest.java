/** Promises 18 to 23 and 27 to 30, edge by edge. */
public final class EdgeForecastTest {
    private static final Kit K = new Kit();
    private static final int[] NUMBERS = {Integer.MIN_VALUE, -2, -1, 0, 1, 2, 3, 6, 7, 8, 9, 255, Integer.MAX_VALUE};
    /** On the bridge nothing is learned but by meeting, so 11 DAYS are the most that could help there. */
    private static final String LEARNERS = "thing a far 9;thing b near 9;person p bridge far;person q bridge near;has q a 12;has p b 12;";

    public static void main(String[] args) {
        whichOnes();
        lacking();
        whenNow();
        whenAHundredDays();
        whenFewerAreLeft();
        whenByMeeting();
        teacherInAHundredDays();
        teacherWhenFewerAreLeft();
        ofLikeTeachersNoneThenTheLeast();
        teachersWhoMeetSomebody();
        taughtByTheLatest();
        schoolOfNobody();
        schoolOfOne();
        schoolOfElevenDays();
        schoolWhenFewerAreLeft();
        schoolOfLikeOnes();
        schoolOfThoseOnTheBridgeAlone();
        schooledByTheLatest();
        shams();
        rushOfNobody();
        rushTodayAndLater();
        rushTillDay399();
        crowds();
        eased();
        K.close();
    }

    private static boolean isIn(int n, int size) {
        return n >= 0 && n < size;
    }

    private static void whichOnes() {
        for (int persons : new int[] {0, 1, 7, 8}) {
            BridgeToll x = Kit.on(Kit.things(2) + Kit.persons(persons, "bridge", "far"));
            for (int p : NUMBERS) {
                for (int e : NUMBERS) {
                    boolean isOne = isIn(p, persons) && isIn(e, 2);
                    K.is("lacks(" + p + ", " + e + ")", x.lacks(p, e), isOne ? 0 : -1);
                    K.is("when(" + p + ", " + e + ")", x.when(p, e), isOne ? 0 : -1);
                }
                K.is("teacher(" + p + ")", x.teacher(p), isIn(p, persons) ? 0 : -1);
                K.is("sham(" + p + ")", x.sham(p), isIn(p, persons) ? (1 << persons) - 1 - (1 << p) : -1);
                K.is("eased(" + p + ")", x.eased(p), isIn(p, 2) ? 0 : -1);
            }
            K.is("school()", x.school(), 0);
            for (int p : NUMBERS) {
                int alone = persons % 2 == 1 ? persons - 1 : -1;
                K.is("schooled(" + p + ") of " + persons, x.schooled(p), isIn(p, persons) && p != alone ? p ^ 1 : -1);
            }
        }
    }

    private static void lacking() {
        for (int t = 0; t < 6; t++) {
            String thing = " t" + (char) ('a' + t) + " ";
            for (int n = 1; n <= 12; n++) {
                BridgeToll x = Kit.on(Kit.things(6) + "person p far near;has p" + thing + "6;asks near" + thing + n + ";");
                K.is("6 of" + thing + "where " + n + " are asked", x.lacks(0, 0), n > 6 ? 1 << t : 0);
                K.is("nothing at the other END", x.lacks(0, 1), 0);
            }
        }
        StringBuilder all = new StringBuilder(Kit.things(6)).append("person p near far;");
        for (int t = 0; t < 6; t++) {
            all.append("asks far t").append((char) ('a' + t)).append(" 12;");
        }
        K.is("all six", Kit.on(all.toString()).lacks(0, 1), 63);
    }

    /** 0: he could now. */
    private static void whenNow() {
        for (int n = 3; n <= 6; n++) {
            BridgeToll x = Kit.on("thing a near 1;person p near far;has p a 4;asks far a " + n + ";");
            K.is("4 where " + n + " are asked", x.when(0, 1), Math.max(0, n - 4));
            K.is("and by a TEACHER", x.teacher(0), Math.max(0, n - 4));
        }
        BridgeToll x = Kit.on("thing a near 1;person p far far;asks far a 1;");
        K.is("never", x.when(0, 1), -1);
        K.is("the other END now", x.when(0, 0), 0);
    }

    /** He needs 108 DAYS less those that he STAYED, as DAYS of 9 are nine times twelve. */
    private static void whenAHundredDays() {
        BridgeToll x = Kit.on("thing a near 9;person p near far;person q near near;asks far a 12;asks near a 12;");
        for (int stayed = 0; stayed <= 12; stayed++) {
            int due = 108 - stayed;
            K.is(due + " DAYS far", x.when(0, 1), due <= 100 ? due : -1);
            K.is(due + " DAYS near", x.when(0, 0), due <= 100 ? due : -1);
            K.is("of the other one", x.when(1, 1), due <= 100 ? due : -1);
            K.is("nothing goes on by that", x.now(0), stayed);
            x.days(1);
        }
    }

    private static BridgeToll onDayStayedEight(int day) {
        BridgeToll x = Kit.on("thing a near 9;person p bridge far;asks far a 12;");
        Kit.live(x, day - 8);
        x.go(0, 0);
        x.days(8);
        return x;
    }

    private static void whenFewerAreLeft() {
        for (int day = 298; day <= 302; day++) {
            BridgeToll x = onDayStayedEight(day);
            K.is("100 DAYS from DAY " + day, x.when(0, 1), day <= 300 ? 100 : -1);
            x.ask(1, 0, 11);
            K.is("91 DAYS from DAY " + day, x.when(0, 1), 91);
        }
        for (int day = 396; day <= 400; day++) {
            for (int n = 0; n <= 4; n++) {
                BridgeToll x = Kit.on("thing a far 1;person p near far;person q bridge far;has q a 12;meets p q;");
                Kit.live(x, day);
                x.go(0, 1);
                x.ask(1, 0, n);
                K.is(n + " DAYS from DAY " + day, x.when(0, 1), n <= 400 - day ? n : -1);
                K.is("by a TEACHER", x.teacher(0), n <= 400 - day ? n : -1);
                K.is("by SCHOOL", x.school(), n <= 400 - day ? n : -1);
            }
        }
    }

    private static void whenByMeeting() {
        for (int n = 1; n <= 12; n++) {
            BridgeToll x = Kit.on(LEARNERS + "meets p q;asks far a " + n + ";");
            K.is(n + " from one who has 12", x.when(0, 1), n <= 11 ? n : -1);
            x = Kit.on(LEARNERS + "asks far a " + n + ";");
            K.is("they do not MEET", x.when(0, 1), -1);
            x.join(1, 0);
            K.is("now they do", x.when(0, 1), n <= 11 ? n : -1);
            x.go(1, 0);
            K.is("not in one PLACE", x.when(0, 1), -1);
        }
    }

    private static void teacherInAHundredDays() {
        BridgeToll x = Kit.on("thing a near 9;person p near far;person q far far;asks far a 12;");
        for (int stayed = 0; stayed <= 12; stayed++) {
            int due = 108 - stayed;
            K.is(due + " DAYS", x.teacher(0), due <= 100 ? due : -1);
            x.days(1);
        }
        // He has the one THING by living, the other one from q alone.
        x = Kit.on("thing a near 9;thing b far 1;person p near far;person q near far;has q b 5;asks far a 12;asks far b 3;");
        for (int stayed = 0; stayed <= 12; stayed++) {
            int due = 108 - stayed;
            K.is(due + " DAYS by q", x.teacher(0), due <= 100 ? due : -1);
            K.is("whom he should MEET", x.taught(), due <= 100 ? 1 : -1);
            x.days(1);
        }
    }

    private static void teacherWhenFewerAreLeft() {
        for (int day = 298; day <= 302; day++) {
            BridgeToll x = onDayStayedEight(day);
            K.is("100 DAYS from DAY " + day, x.teacher(0), day <= 300 ? 100 : -1);
        }
    }

    private static void teacher(String what, BridgeToll x, int p, int days, int who) {
        String before = Kit.seen(x);
        K.is(what + ": DAYS", x.teacher(p), days);
        K.is(what + ": who", x.taught(), who);
        K.is(what + ": all stays", Kit.seen(x).equals(before), true);
    }

    private static void ofLikeTeachersNoneThenTheLeast() {
        String five = Kit.things(1) + Kit.persons(5, "bridge", "near");
        teacher("one has 3 and needs 2", Kit.on(five + "has pc ta 12;has pd ta 12;asks near ta 2;"), 0, 2, 2);
        teacher("the least of three", Kit.on(five + "has pc ta 12;has pb ta 3;has pe ta 9;asks near ta 2;"), 0, 2, 1);
        teacher("not one who has 1 more at last", Kit.on(five + "has pb ta 2;has pe ta 9;asks near ta 2;"), 0, 2, 4);
        teacher("the least, though he meets another one",
                Kit.on(five + "has pb ta 9;has pc ta 9;asks near ta 3;meets pa pc;"), 0, 3, 1);
        teacher("of the last PERSON", Kit.on(five + "has pb ta 9;has pc ta 9;asks near ta 3;"), 4, 3, 1);
        teacher("by the last PERSON", Kit.on(Kit.things(1) + Kit.persons(8, "bridge", "near") + "has ph ta 9;asks near ta 3;"),
                0, 3, 7);
        teacher("none, who could now", Kit.on(five + "has pa ta 3;has pb ta 9;asks near ta 3;meets pa pb;"), 0, 0, -1);
        teacher("none, as it goes as soon by living",
                Kit.on(Kit.things(1) + Kit.persons(3, "near", "far") + "has pb ta 1;asks far ta 3;"), 0, 3, -1);
        teacher("who has 2 more is sooner",
                Kit.on(Kit.things(1) + Kit.persons(3, "near", "far") + "has pc ta 2;asks far ta 3;"), 0, 2, 2);
        teacher("one in another PLACE is none", Kit.on("thing a near 1;person p bridge far;person q near far;person r bridge far;"
                + "has q a 12;has r a 4;asks far a 3;"), 0, 3, 2);
    }

    /** All other pairs without these two: whom the TEACHER or he meets now is no hindrance. */
    private static void teachersWhoMeetSomebody() {
        String five = Kit.things(1) + Kit.persons(5, "bridge", "near");
        teacher("the TEACHER meets another one", Kit.on(five + "has pc ta 12;asks near ta 4;meets pc pd;"), 0, 4, 2);
        teacher("he meets another one", Kit.on(five + "has pc ta 12;asks near ta 4;meets pa pd;"), 0, 4, 2);
        teacher("both do", Kit.on(five + "has pc ta 12;asks near ta 4;meets pa pb;meets pd pc;"), 0, 4, 2);
        BridgeToll x = Kit.on(five + "has pb ta 3;has pc ta 12;asks near ta 4;meets pb pc;");
        teacher("whom another one teaches meanwhile is left by him", x, 0, 4, 2);
    }

    private static void taughtByTheLatest() {
        BridgeToll x = Kit.on(Kit.things(1) + Kit.persons(3, "bridge", "far") + "has pb ta 9;asks far ta 4;");
        K.is("ahead of any", x.taught(), -1);
        K.is("no such one", x.teacher(3), -1);
        K.is("still ahead of any", x.taught(), -1);
        teacher("by the second", x, 0, 4, 1);
        K.is("no such one", x.teacher(3), -1);
        K.is("the latest that was not NONE", x.taught(), 1);
        x.ask(1, 0, 12);
        K.is("by none", x.teacher(0), -1);
        K.is("the latest that was not NONE", x.taught(), 1);
        K.is("nor by none for the second", x.teacher(1), -1);
        K.is("the latest that was not NONE", x.taught(), 1);
        x.ask(1, 0, 9);
        teacher("who needs none", x, 1, 0, -1);
    }

    private static void schoolOfNobody() {
        for (String text : new String[] {"", Kit.things(6), Kit.things(1) + "person p near far;person q far near;asks far ta 9;"}) {
            BridgeToll x = Kit.on(text);
            K.is("nobody is on the bridge", x.school(), 0);
            K.is("nobody", x.schooled(0), -1);
        }
        BridgeToll x = Kit.on("thing a near 1;person p bridge near;person q bridge near;asks far a 9;asks near a 1;has p a 1;has q a 1;");
        K.is("both could", x.school(), 0);
        K.is("the first by the second", x.schooled(0), 1);
        K.is("far they could not", x.when(0, 1), -1);
        x.go(0, 0);
        x.go(1, 0);
        x.ask(0, 0, 5);
        K.is("nobody is on the bridge any more", x.school(), 0);
        K.is("nobody", x.schooled(0), -1);
        K.is("nobody", x.schooled(1), -1);
    }

    private static void schoolOfOne() {
        BridgeToll x = Kit.on("thing a near 1;person p near far;person q bridge far;has q a 3;asks far a 3;meets p q;");
        K.is("he could now", x.school(), 0);
        K.is("by nobody", x.schooled(1), -1);
        x.ask(1, 0, 4);
        K.is("he can't", x.school(), -1);
    }

    private static void schoolOfElevenDays() {
        for (int n = 1; n <= 12; n++) {
            BridgeToll x = Kit.on(LEARNERS + "asks far a " + n + ";");
            K.is(n + " DAYS", x.school(), n <= 11 ? n : -1);
            K.is("p by q", x.schooled(0), n <= 11 ? 1 : -1);
            x = Kit.on(LEARNERS + "asks far a 1;asks near b " + n + ";");
            K.is("the last of them in " + n + " DAYS", x.school(), n <= 11 ? n : -1);
        }
    }

    private static void schoolWhenFewerAreLeft() {
        for (int day = 387; day <= 391; day++) {
            BridgeToll x = Kit.on(LEARNERS + "asks far a 11;");
            Kit.live(x, day);
            K.is("11 DAYS from DAY " + day, x.school(), day <= 389 ? 11 : -1);
        }
        BridgeToll x = Kit.on(LEARNERS);
        Kit.live(x, 400);
        K.is("0 DAYS when all are over", x.school(), 0);
    }

    private static void schooled(String what, BridgeToll x, int days, int... who) {
        String before = Kit.seen(x);
        K.is(what, x.school(), days);
        for (int p = 0; p < who.length; p++) {
            K.is(what + ": " + p, x.schooled(p), who[p]);
        }
        K.is(what + ": all stays", Kit.seen(x).equals(before), true);
    }

    /** PERSON by PERSON the least other one, none behind all. */
    private static void schoolOfLikeOnes() {
        for (int n = 0; n <= 8; n++) {
            BridgeToll x = Kit.on(Kit.persons(n, "bridge", "near"));
            K.is(n + " who could all", x.school(), 0);
            for (int p = 0; p < 8; p++) {
                K.is("one by one, " + p + " of " + n, x.schooled(p), p < n - n % 2 ? p ^ 1 : -1);
            }
        }
        String four = Kit.things(1) + Kit.persons(4, "bridge", "far") + "asks far ta 2;";
        schooled("b needs d", Kit.on(four + "has pa ta 2;has pc ta 2;has pd ta 9;"), 2, 2, 3, 0, 1);
        schooled("a needs c or d", Kit.on(four + "has pb ta 2;has pc ta 9;has pd ta 9;"), 2, 2, 3, 0, 1);
        schooled("a and b need c and d", Kit.on(four + "has pc ta 9;has pd ta 9;"), 2, 2, 3, 0, 1);
        schooled("a and d need b and c", Kit.on(four + "has pb ta 9;has pc ta 3;"), 2, 1, 0, 3, 2);
        schooled("c needs one, a is first", Kit.on(four + "has pa ta 9;has pb ta 9;has pd ta 9;"), 2, 1, 0, 3, 2);
        schooled("three need one", Kit.on(four + "has pd ta 9;"), -1, -1, -1, -1, -1);
        String three = Kit.things(1) + Kit.persons(3, "bridge", "far") + "asks far ta 2;";
        schooled("a is left alone", Kit.on(three + "has pa ta 2;has pc ta 9;"), 2, -1, 2, 1);
        schooled("b is left alone", Kit.on(three + "has pb ta 2;has pc ta 9;"), 2, 2, -1, 0);
        schooled("c is left alone", Kit.on(three + "has pb ta 9;has pc ta 9;"), 2, 1, 0, -1);
    }

    private static void schoolOfThoseOnTheBridgeAlone() {
        String text = "thing a far 1;person p near far;person q bridge far;person r far far;person s bridge far;"
                + "has r a 12;has s a 12;asks far a 3;meets q r;meets p s;";
        schooled("p could not and is not asked", Kit.on(text), 3, -1, 3, -1, 1);
        schooled("nobody else MEETS", Kit.on("thing a near 1;person p near far;person q near far;person r bridge far;meets p q;"),
                0, -1, -1, -1);
    }

    private static void schooledByTheLatest() {
        BridgeToll x = Kit.on(LEARNERS + "asks far a 5;");
        K.is("ahead of any", x.schooled(0), -1);
        schooled("p by q", x, 5, 1, 0);
        x.ask(1, 0, 12);
        schooled("NONE leaves it", x, -1, 1, 0);
        x.go(0, 0);
        schooled("q alone", x, 0, -1, -1);
    }

    private static void shams() {
        for (int t = 0; t < 6; t++) {
            String thing = " t" + (char) ('a' + t) + " ";
            BridgeToll x = Kit.on(Kit.things(6) + Kit.persons(4, "near", "far") + "has pa" + thing + "5;has pb" + thing
                    + "4;has pc" + thing + "5;has pd" + thing + "6;");
            K.is("5, one has 4", x.sham(0), 4 | 8);
            K.is("4", x.sham(1), 1 | 4 | 8);
            K.is("5 too", x.sham(2), 1 | 8);
            K.is("6", x.sham(3), 0);
        }
        BridgeToll x = Kit.on("thing a near 1;thing b far 1;person p near far;person q far near;has p a 3;has q a 12;has p b 1;");
        K.is("less of one THING", x.sham(0), 0);
        K.is("nor he for the other", x.sham(1), 0);
        K.is("nobody else", Kit.on("person p near far;").sham(0), 0);
    }

    private static void rush(String what, BridgeToll x, int days, int crowd) {
        String before = Kit.seen(x);
        K.is(what, x.rush(), days);
        K.is(what + ": CROWD", x.crowd(), crowd);
        K.is(what + ": all stays", Kit.seen(x).equals(before), true);
    }

    private static void rushOfNobody() {
        K.is("CROWD ahead of any", new BridgeToll().crowd(), -1);
        rush("no PERSONS", new BridgeToll(), 0, 0);
        rush("all are there", Kit.on("person p near near;person q far far;"), 0, 0);
    }

    private static void rushTodayAndLater() {
        rush("today", Kit.on("person p bridge near;person q bridge far;"), 0, 0);
        rush("from the bridge today, with just the toll",
                Kit.on("thing a near 1;person p bridge far;has p a 3;asks far a 3;"), 0, 0);
        rush("without it never", Kit.on("thing a near 1;person p bridge far;has p a 2;asks far a 3;"), -1, 1);
        rush("onto the bridge today, over tomorrow", Kit.on("person p near far;"), 1, 1);
        rush("from far to near", Kit.on("person p far near;"), 1, 1);
        rush("who comes onto it has not lived there", Kit.on("thing a near 1;person p near far;asks far a 1;"), -1, 1);
        // He who is there already stays there, though he could not PAY.
        rush("no toll for who is there", Kit.on("thing a near 1;person p far far;asks far a 12;"), 0, 0);
        String both = "thing a far 9;thing b near 9;person p near far;person q far near;has q a 12;has p b 12;meets p q;";
        for (int n = 1; n <= 12; n++) {
            rush(n + " are asked", Kit.on(both + "asks far a " + n + ";asks near b " + n + ";"), n <= 11 ? n : -1, 2);
        }
        // Whoever could PAY goes, and teaches no more.
        rush("the TEACHER is over first", Kit.on(both + "asks far a 11;asks near b 10;"), -1, 2);
    }

    /** Not beyond DAY 399. */
    private static void rushTillDay399() {
        for (int day = 395; day <= 400; day++) {
            BridgeToll x = Kit.on("person p bridge far;");
            Kit.live(x, day);
            rush("0 on DAY " + day, x, day <= 399 ? 0 : -1, 0);
            x = Kit.on("person p near far;");
            Kit.live(x, day);
            rush("1 on DAY " + day, x, day <= 398 ? 1 : -1, day <= 399 ? 1 : 0);
            x = Kit.on("thing a far 9;thing b near 9;person p near far;person q bridge near;has q a 12;asks far a 3;asks near b 3;"
                    + "has p b 12;meets p q;");
            Kit.live(x, day);
            rush("3 on DAY " + day, x, day <= 396 ? 3 : -1, day <= 399 ? 2 : 0);
        }
    }

    private static void crowds() {
        for (int n = 1; n <= 8; n++) {
            rush(n + " at once", Kit.on(Kit.persons(n, "near", "far")), 1, n);
            rush(n + " go from it", Kit.on(Kit.persons(n, "bridge", "far")), 0, 0);
            rush(n + " stay there", Kit.on(Kit.things(1) + Kit.persons(n, "bridge", "far") + "asks far ta 1;"), -1, n);
        }
        BridgeToll x = Kit.on(Kit.persons(3, "near", "far"));
        x.rush();
        Kit.bridge(x, Kit.persons(1, "near", "far"));
        K.is("by the latest rush()", x.crowd(), 3);
        x.rush();
        K.is("by the latest rush()", x.crowd(), 1);
        Kit.bridge(x, Kit.things(1) + Kit.persons(2, "bridge", "far") + "asks far ta 1;");
        K.is("NONE", x.rush(), -1);
        K.is("by that one too", x.crowd(), 2);
    }

    private static void eased() {
        for (int n = 0; n <= 12; n++) {
            BridgeToll x = Kit.on("thing a near 1;person p bridge far;person q bridge near;person r near far;person s far far;has p a 5;");
            x.ask(1, 0, n);
            K.is("5 where " + n + " are asked", x.eased(1), Math.max(0, n - 5));
            K.is("nothing at the other END", x.eased(0), 0);
            K.is("it is still asked", x.asks(1, 0), n);
        }
        BridgeToll x = Kit.on("thing a near 1;thing b near 1;person p bridge far;person q bridge far;person r bridge near;"
                + "has p a 5;has q b 7;has r a 1;asks far a 6;asks far b 8;asks near a 2;asks near b 3;");
        K.is("the most that one lacks, THING by THING", x.eased(1), 6 + 8);
        K.is("by who WANTS it alone", x.eased(0), 1 + 3);
        StringBuilder all = new StringBuilder(Kit.things(6)).append("person p bridge far;");
        for (int t = 0; t < 6; t++) {
            all.append("asks far t").append((char) ('a' + t)).append(" 12;");
        }
        K.is("the most", Kit.on(all.toString()).eased(1), 72);
        K.is("nobody WANTS it there", Kit.on(all.toString()).eased(0), 0);
        K.is("no PERSONS", Kit.on("thing a near 1;asks far a 3;").eased(1), 0);
    }
}
