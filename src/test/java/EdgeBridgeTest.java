/** Terms, 'A BRIDGE', and promises 4 and 5, edge by edge: the least and the most of each NUMBER and of each sort. */
public final class EdgeBridgeTest {
    private static final Kit K = new Kit();
    private static final String WORDS = "thing person has asks meets near bridge far goes joins parts trades ask day or and"
            + " not pays met wants all stayed crossed number";
    private static final String TWO = "thing a near 1;person p near far;";

    public static void main(String[] args) {
        daysOfAThing();
        howMuchOneHas();
        howMuchIsAsked();
        eachTwoOnce();
        unlikeAndOnceMeets();
        namesThatAreNone();
        toldOnce();
        toldAhead();
        ofAnotherSort();
        sixThings();
        eightPersons();
        placesAndEnds();
        allThatFits();
        noLine();
        whatCantCome();
        aNewBridge();
        aFaultChangesNothing();
        faultOfTheLatest();
        K.close();
    }

    /** DAYS: 1 to 9. */
    private static void daysOfAThing() {
        for (int n = 0; n <= 12; n++) {
            for (String end : new String[] {"near", "far"}) {
                String text = "thing a " + end + " " + n + ";";
                boolean isRight = n >= 1 && n <= 9;
                K.bridgeIs(text, isRight ? 1 : -1 - text.indexOf(" " + n) - 1, isRight ? 0 : 2);
            }
        }
        for (int n = 1; n <= 9; n++) {
            K.is("its DAYS", Kit.on("thing a far " + n + ";").thing(0, 1), n);
        }
        K.bridgeFault("thing a near 000;", 2, 13);
        K.bridgeIs("thing a near 001;", 1, 0);
        K.bridgeFault("thing a near 010;", 2, 13);
        K.bridgeFault("thing a near 999;", 2, 13);
    }

    /** N: 1 to 12; 0 without. */
    private static void howMuchOneHas() {
        int at = TWO.length() + 8;
        for (int n = 0; n <= 14; n++) {
            boolean isRight = n >= 1 && n <= 12;
            K.bridgeIs(TWO + "has p a " + n + ";", isRight ? 3 : -1 - at, isRight ? 0 : 2);
        }
        for (int n = 1; n <= 12; n++) {
            K.is("he has it", Kit.on(TWO + "has p a " + n + ";").have(0, 0), n);
        }
        K.bridgeIs(TWO + "has p a 012;", 3, 0);
        K.bridgeFault(TWO + "has p a 013;", 2, at);
        K.bridgeFault(TWO + "has p a 000;", 2, at);
        K.bridgeFault(TWO + "has p a 112;", 2, at);
        K.is("0 without", Kit.on(TWO).have(0, 0), 0);
    }

    private static void howMuchIsAsked() {
        String[] ends = {"near", "far"};
        for (int e = 0; e < 2; e++) {
            String line = "asks " + ends[e] + " a ";
            int at = TWO.length() + line.length();
            for (int n = 0; n <= 14; n++) {
                boolean isRight = n >= 1 && n <= 12;
                K.bridgeIs(TWO + line + n + ";", isRight ? 3 : -1 - at, isRight ? 0 : 2);
            }
            for (int n = 1; n <= 12; n++) {
                BridgeToll x = Kit.on(TWO + line + n + ";");
                K.is("it is asked", x.asks(e, 0), n);
                K.is("0 without", x.asks(1 - e, 0), 0);
            }
            K.bridgeFault(TWO + line + "000;", 2, at);
            K.bridgeFault(TWO + line + "013;", 2, at);
            K.bridgeIs(TWO + line + "012;", 3, 0);
        }
        K.is("0 without", Kit.on(TWO).asks(0, 0), 0);
        K.is("0 without", Kit.on(TWO).asks(1, 0), 0);
    }

    /** Two that were told together: the FAULT is at the second of them. */
    private static void eachTwoOnce() {
        String four = "thing a near 1;thing b far 1;person p near far;person q near far;";
        int n = four.length();
        K.bridgeIs(four + "has p a 1;has p b 1;has q a 1;has q b 1;", 8, 0);
        K.bridgeFault(four + "has p a 1;has p a 1;", 3, n + 10 + 6);
        K.bridgeFault(four + "has p a 12;has p a 3;", 3, n + 11 + 6);
        K.bridgeFault(four + "has p a 1;has q a 1;has p b 1;has q a 2;", 3, n + 30 + 6);
        K.bridgeFault(four + "has p a 1;has p a", 3, n + 10 + 6);
        K.bridgeFault(four + "has p a 1;has p a 0;", 3, n + 10 + 6);
        K.bridgeIs(four + "asks near a 1;asks far a 1;asks near b 1;asks far b 1;", 8, 0);
        K.bridgeFault(four + "asks near a 1;asks near a 1;", 3, n + 14 + 10);
        K.bridgeFault(four + "asks far a 1;asks far a 2;", 3, n + 13 + 9);
        K.bridgeFault(four + "asks far a 12;asks near a 1;asks far a 99;", 3, n + 14 + 14 + 9);
        // A LINE that is told twice in another one's words is none of these.
        K.bridgeIs(four + "has p a 1;asks near a 1;asks far a 1;", 7, 0);
    }

    private static void unlikeAndOnceMeets() {
        String four = Kit.persons(4, "near", "far");
        int n = four.length();
        K.bridgeIs(four + "meets pa pb;", 5, 0);
        K.bridgeIs(four + "meets pd pa;", 5, 0);
        K.bridgeIs(four + "meets pa pd;meets pc pb;", 6, 0);
        K.bridgeFault(four + "meets pa pa;", 3, n + 9);
        K.bridgeFault(four + "meets pd pd;", 3, n + 9);
        String pair = "meets pa pb;";
        K.bridgeFault(four + pair + "meets pa pb;", 3, n + 12 + 6);
        K.bridgeFault(four + pair + "meets pb pa;", 3, n + 12 + 6);
        K.bridgeFault(four + pair + "meets pa pc;", 3, n + 12 + 6);
        K.bridgeFault(four + pair + "meets pb pc;", 3, n + 12 + 6);
        K.bridgeFault(four + pair + "meets pc pa;", 3, n + 12 + 9);
        K.bridgeFault(four + pair + "meets pc pb;", 3, n + 12 + 9);
        K.bridgeFault(four + pair + "meets pc pc;", 3, n + 12 + 9);
        K.bridgeFault(four + pair + "meets pa pa;", 3, n + 12 + 6);
        BridgeToll x = Kit.on(Kit.persons(8, "near", "far") + "meets pa pb;meets pc pd;meets pe pf;meets ph pg;");
        for (int p = 0; p < 8; p++) {
            K.is("four pairs", x.person(p, 3), p ^ 1);
        }
        K.is("nobody without", Kit.on(four + "meets pb pc;").person(0, 3), -1);
        K.is("nobody without", Kit.on(four + "meets pb pc;").person(3, 3), -1);
    }

    /** A NAME is none of the WORDS told; one letter less or more makes it one. */
    private static void namesThatAreNone() {
        for (String word : WORDS.split(" ")) {
            K.bridgeFault("thing " + word + " near 1;", 1, 6);
            K.bridgeFault("person " + word + " near far;", 1, 7);
            K.bridgeFault(TWO + "has " + word, 1, TWO.length() + 4);
            K.bridgeFault(TWO + "has p " + word, 1, TWO.length() + 6);
            K.bridgeFault(TWO + "asks far " + word, 1, TWO.length() + 9);
            K.bridgeFault(TWO + "meets " + word, 1, TWO.length() + 6);
            K.bridgeFault(TWO + "meets p " + word, 1, TWO.length() + 8);
            String less = word.substring(0, word.length() - 1);
            if (!(" " + WORDS + " ").contains(" " + less + " ")) {
                K.bridgeIs("thing " + less + " near 1;", 1, 0);
            }
            if (word.length() < 7 && !(" " + WORDS + " ").contains(" " + word + "s ")) {
                K.bridgeIs("person " + word + "s near far;", 1, 0);
            }
            K.bridgeIs("thing x" + word.substring(1) + " near 1;", 1, 0);
        }
        for (String word : "place end name line book wrong days toll who none book lives told".split(" ")) {
            K.bridgeIs("thing " + word + " near 1;", 1, 0);
        }
    }

    private static void toldOnce() {
        K.bridgeFault("thing a near 1;thing a near 1;", 3, 21);
        K.bridgeFault("thing a near 1;person a near far;", 3, 22);
        K.bridgeFault("person a near far;thing a near 1;", 3, 24);
        K.bridgeFault("person a near far;person a far near;", 3, 25);
        K.bridgeIs("thing a near 1;thing b near 1;person c near far;person d near far;", 4, 0);
        String most = Kit.things(5) + Kit.persons(7, "near", "far");
        for (int i = 0; i < 7; i++) {
            K.bridgeFault(most + "person p" + (char) ('a' + i) + " near far;", 3, most.length() + 7);
            K.bridgeFault(most + "thing p" + (char) ('a' + i) + " near 1;", 3, most.length() + 6);
        }
        for (int i = 0; i < 5; i++) {
            K.bridgeFault(most + "person t" + (char) ('a' + i) + " near far;", 3, most.length() + 7);
            K.bridgeFault(most + "thing t" + (char) ('a' + i) + " near 1;", 3, most.length() + 6);
        }
    }

    private static void toldAhead() {
        K.bridgeFault("has p a 1;" + TWO, 3, 4);
        K.bridgeFault("person p near far;has p a 1;thing a near 1;", 3, 18 + 6);
        K.bridgeFault("asks near a 1;" + TWO, 3, 10);
        K.bridgeFault("meets p q;person p near far;person q near far;", 3, 6);
        K.bridgeFault("person p near far;meets p q;person q near far;", 3, 18 + 8);
        // The BRIDGE ahead of it tells nothing for the new one.
        BridgeToll x = Kit.on(TWO);
        K.is("a BRIDGE of its own", Kit.bridge(x, "has p a 1;"), -1 - 4);
        K.is("a BRIDGE of its own", Kit.bridge(x, TWO), 2);
    }

    private static void ofAnotherSort() {
        int n = TWO.length();
        K.bridgeFault(TWO + "has a a 1;", 3, n + 4);
        K.bridgeFault(TWO + "has p p 1;", 3, n + 6);
        K.bridgeFault(TWO + "asks near p 1;", 3, n + 10);
        K.bridgeFault(TWO + "meets a p;", 3, n + 6);
        K.bridgeFault(TWO + "meets p a;", 3, n + 8);
    }

    /** A seventh THING is a FAULT at its LINE's first WORD, wherever that stands and whatever comes behind it. */
    private static void sixThings() {
        for (int n = 0; n <= 6; n++) {
            K.bridgeIs(Kit.things(n), n, 0);
            K.is("THINGS", Kit.on(Kit.things(n)).count(0), n);
        }
        String six = Kit.things(6);
        K.bridgeFault(Kit.things(7), 4, six.length());
        K.bridgeFault(six + " \n thing x near 1;", 4, six.length() + 3);
        K.bridgeFault(six + Kit.persons(8, "near", "far") + "thing x near 1;", 4, six.length() + 8 * 19);
        for (String behind : new String[] {"", " ;", " ta near 1;", " x near 0;", " !", " x near 1", " near"}) {
            K.bridgeFault(six + "thing" + behind, 4, six.length());
        }
        K.bridgeFault(six + "things x near 1;", 1, six.length());
        K.bridgeIs(six + "person p near far;has p tf 12;asks near tf 1;", 9, 0);
        K.bridgeFault(Kit.things(5) + "thing ta near 1;", 3, 5 * 16 + 6);
    }

    private static void eightPersons() {
        for (int n = 0; n <= 8; n++) {
            K.bridgeIs(Kit.persons(n, "far", "far"), n, 0);
            K.is("PERSONS", Kit.on(Kit.persons(n, "far", "far")).count(1), n);
        }
        String eight = Kit.persons(8, "near", "far");
        K.bridgeFault(Kit.persons(9, "near", "far"), 4, eight.length());
        K.bridgeFault(eight + " \n person x near far;", 4, eight.length() + 3);
        K.bridgeFault(eight + Kit.things(6) + "person x near far;", 4, eight.length() + 6 * 16);
        for (String behind : new String[] {"", " ;", " pa near far;", " x near bridge;", " !", " x near far", " near"}) {
            K.bridgeFault(eight + "person" + behind, 4, eight.length());
        }
        K.bridgeIs(eight + Kit.things(6) + "has ph tf 12;meets pa ph;", 16, 0);
        K.bridgeFault(Kit.persons(7, "near", "far") + "person pa near far;", 3, 7 * 19 + 7);
    }

    /** PLACES: 0 near, 1 bridge, 2 far; ENDS: 0 near, 1 far. */
    private static void placesAndEnds() {
        String[] places = {"near", "bridge", "far"};
        String[] ends = {"near", "far"};
        for (int place = 0; place < 3; place++) {
            for (int end = 0; end < 2; end++) {
                BridgeToll x = Kit.on("person p " + places[place] + " " + ends[end] + ";");
                K.is("PLACE", x.person(0, 0), place);
                K.is("WANTS", x.person(0, 1), end);
            }
        }
        K.is("END near", Kit.on("thing a near 1;").thing(0, 0), 0);
        K.is("END far", Kit.on("thing a far 1;").thing(0, 0), 1);
        K.bridgeFault("thing a bridge 1;", 1, 8);
        K.bridgeFault("person p near bridge;", 1, 14);
        K.bridgeFault(TWO + "asks bridge a 1;", 1, TWO.length() + 5);
        // Numbered from 0 in the order in which they were told, each sort by itself.
        BridgeToll x = Kit.on("person p near far;thing a near 3;person q bridge far;thing b far 4;person r far near;");
        K.is("THING 0", x.thing(0, 1), 3);
        K.is("THING 1", x.thing(1, 1), 4);
        for (int p = 0; p < 3; p++) {
            K.is("PERSON " + p, x.person(p, 0), p);
        }
    }

    /** Six THINGS, eight PERSONS, all that they may have, be asked and meet would be 902 bytes at the shortest. */
    private static void allThatFits() {
        StringBuilder b = new StringBuilder();
        for (int t = 0; t < 6; t++) {
            b.append("thing ").append((char) ('a' + t)).append(" far 9;");
        }
        for (int p = 0; p < 8; p++) {
            b.append("person ").append((char) ('p' + p)).append(" far far;");
        }
        for (int t = 0; t < 6; t++) {
            b.append("asks far ").append((char) ('a' + t)).append(" 9;asks near ").append((char) ('a' + t)).append(" 8;");
        }
        for (int p = 0; p < 8; p++) {
            for (int t = 0; t < 6; t++) {
                b.append("has ").append((char) ('p' + p)).append(' ').append((char) ('a' + t)).append(" 7;");
            }
        }
        b.append("meets p q;meets r s;meets t u;");
        K.is("the test's own text", b.length(), 892);
        K.bridgeIs(b.toString(), 77, 0);
        BridgeToll x = Kit.on(b.toString());
        K.is("all that all have", x.now(6), 6 * 8 * 7);
        K.is("the last of all", x.have(7, 5), 7);
        K.is("the last that is asked", x.asks(0, 5), 8);
        K.bridgeIs(b + " \n\n\n\n\n\n\n", 77, 0);
        K.bridgeFault(b + " \n\n\n\n\n\n\n\n", 1, 900);
        K.bridgeFault(b + "meets v w;", 1, 900);
    }

    private static void noLine() {
        for (String text : new String[] {"", " ", "\n", "  \n  "}) {
            K.bridgeIs(text, 0, 0);
            BridgeToll x = Kit.on(Kit.TOWN);
            K.is("an empty one is one", Kit.bridge(x, text), 0);
            K.is("without THINGS", x.count(0), 0);
            K.is("without PERSONS", x.count(1), 0);
        }
        K.bridgeFault(";", 1, 0);
        K.bridgeFault(";;", 1, 0);
        K.bridgeFault("thing a near 1;;", 1, 15);
        K.bridgeFault("thing a near 1", 1, 14);
    }

    /** In each place of each LINE every other TOKEN, no TOKEN and the end are FAULTS at it. */
    private static void whatCantCome() {
        String[] lines = {"thing b near 1 ;", "person q near far ;", "has p a 1 ;", "asks near a 1 ;", "meets p o ;"};
        String ahead = TWO + "person o near far;";
        String[] others = {"!", "x1", "abcdefgh", "1234", ";", "<", "=", ">", "(", ")", ".", "5", "goes", "thing", "zz", "near",
            "bridge", ""};
        for (String line : lines) {
            String[] tokens = line.split(" ");
            String before = ahead;
            for (int i = 0; i < tokens.length; i++) {
                for (String other : others) {
                    if (canCome(tokens, i, other)) {
                        continue;
                    }
                    K.bridgeFault(before + other, 1, before.length());
                }
                before += tokens[i] + " ";
            }
        }
    }

    /** Whether such a TOKEN may stand here by its sort alone. */
    private static boolean canCome(String[] line, int i, String token) {
        if (i == 0) {
            return token.isEmpty() || token.equals("thing");
        }
        if (line[i].equals(";")) {
            return token.equals(";");
        }
        if (line[i].equals("1")) {
            return token.equals("5");
        }
        if (line[i].equals("near") || line[i].equals("far")) {
            return token.equals("near") || token.equals("bridge") && line[0].equals("person") && i == 2;
        }
        return token.equals("zz");
    }

    /** A new BRIDGE: DAY 0, nobody has STAYED or gone, no SENTENCE. */
    private static void aNewBridge() {
        String town = "thing a near 1;person p near far;person q near far;";
        BridgeToll x = Kit.on(town);
        String fresh = Kit.seen(x);
        x.days(5);
        x.go(0, 1);
        x.join(0, 1);
        x.ask(1, 0, 4);
        Kit.sentence(x, "near");
        K.is("there is a SENTENCE", x.said(-1), 1);
        K.is("the same again", Kit.bridge(x, town), 3);
        K.is("all as it was told", Kit.seen(x).equals(fresh), true);
        K.is("DAY 0", x.now(0), 0);
        K.is("nobody has STAYED", x.person(0, 2) + x.person(1, 2), 0);
        K.is("nobody has gone", x.now(5), 0);
        K.is("no SENTENCE", x.said(-1), -1);
        K.is("no SENTENCE", x.said(0), -1);
        K.is("nothing to undo", x.undo(), -1);
        Kit.live(x, 400);
        K.is("all DAYS are over", x.days(1), 0);
        Kit.bridge(x, town);
        K.is("DAY 0 again", x.days(1), 1);
    }

    private static void aFaultChangesNothing() {
        BridgeToll x = Kit.on(Kit.TOWN);
        x.days(3);
        x.go(2, 1);
        Kit.sentence(x, "met");
        String before = Kit.seen(x);
        String[] texts = {"!", "thing a near 0;", "thing a near 1;thing a near 1;", Kit.things(7), Kit.things(6) + "person p"};
        for (String text : texts) {
            K.is("a FAULT", Kit.bridge(x, text) < 0, true);
            K.is("it stays", Kit.seen(x).equals(before), true);
            K.is("the SENTENCE stays", x.said(-1), 2);
            K.is("the tape is empty", x.count(2), 0);
        }
        K.is("what can be undone stays", x.undo(), 1);
        K.is("what can be undone stays", x.undo(), 0);
    }

    /** fault(): of the latest of three calls; a book() of -1000 leaves it, and so does all else. */
    private static void faultOfTheLatest() {
        BridgeToll x = new BridgeToll();
        K.is("ahead of any", x.fault(), 0);
        x.book(2);
        K.is("a book() of -1000 leaves it", x.fault(), 0);
        String[] texts = {TWO, "!", "thing a near 0;", "thing a near 1;thing a near 1;", Kit.things(7)};
        for (int kind = 0; kind < 5; kind++) {
            Kit.bridge(x, texts[kind]);
            K.is("fault of a BRIDGE", x.fault(), kind);
            Kit.write(x, "day 0;");
            x.book(2);
            K.is("a book() of -1000 leaves it", x.fault(), kind);
            x.book(-1);
            K.is("a book() of -1000 leaves it", x.fault(), kind);
            x.laws();
            x.days(1);
            x.undo();
            x.days(0);
            x.go(0, 2);
            x.restore(0);
            K.is("all else leaves it", x.fault(), kind);
        }
        String[] books = {"day 1;", "!", "day 0;", "zoe parts;", Kit.times("day 1;", 41)};
        String[] sentences = {"near", "!", null, null, "near" + Kit.times(" or far", 20)};
        Kit.bridge(x, TWO);
        for (int kind = 0; kind < 5; kind++) {
            Kit.book(x, books[kind], 0);
            K.is("fault of a BOOK", x.fault(), kind);
            if (sentences[kind] != null) {
                Kit.book(x, books[(kind + 2) % 5], 0);
                Kit.sentence(x, sentences[kind]);
                K.is("fault of a SENTENCE", x.fault(), kind);
            }
        }
        Kit.bridge(x, "!");
        Kit.book(x, "", 0);
        K.is("none any more", x.fault(), 0);
        Kit.bridge(x, "!");
        Kit.sentence(x, "near");
        K.is("none any more", x.fault(), 0);
        Kit.sentence(x, "!");
        Kit.bridge(x, "");
        K.is("none any more", x.fault(), 0);
    }
}
