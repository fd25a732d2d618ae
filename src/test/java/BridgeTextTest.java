/** Promises 4 and 5, and the FAULTS of a BRIDGE. */
public final class BridgeTextTest {
    private static final Kit K = new Kit();

    public static void main(String[] args) {
        plainTexts();
        tokens();
        grammar();
        numbers();
        names();
        pairs();
        tooMany();
        lengths();
        staysWithAFault();
        newBridge();
        K.close();
    }

    private static void fault(String text, int kind, int place) {
        BridgeToll x = Kit.on(Kit.TOWN);
        String before = Kit.seen(x);
        K.is("4 [" + text + "]", Kit.bridge(x, text), -1 - place);
        K.is("5 [" + text + "]", x.fault(), kind);
        K.is("4 it stays [" + text + "]", Kit.seen(x).equals(before), true);
        K.is("4 the tape is empty", x.count(2), 0);
    }

    private static void good(String text, int lines) {
        BridgeToll x = new BridgeToll();
        K.is("4 [" + text + "]", Kit.bridge(x, text), lines);
        K.is("5 [" + text + "]", x.fault(), 0);
        K.is("4 the tape is empty", x.count(2), 0);
    }

    private static void plainTexts() {
        good("", 0);
        good("  \n ", 0);
        good("thing a near 1;", 1);
        good("thing a near 1 ;\nperson b far near;", 2);
        good("thing abcdefg far 9;has;".substring(0, 20), 1);
        good("thing a near 01;", 1);
        good("thing a near 009;", 1);
        good(Kit.TOWN, 17);
        good("person a near far;person b far near;meets b a;", 3);
        good("thing named near 1;person things near far;", 2);
    }

    private static void tokens() {
        fault("Thing a near 1;", 1, 0);
        fault("thing abcdefgh near 1;", 1, 6);
        fault("thing a1 near 1;", 1, 6);
        fault("thing 1a near 1;", 1, 6);
        fault("thing a near 0001;", 1, 13);
        fault("thing a near 1234;", 1, 13);
        fault("thing a near 1\t;", 1, 14);
        fault("thing a near 1\r;", 1, 14);
        fault("thing a near 1.", 1, 14);
        fault("thing a near-1;", 1, 12);
        fault("thinga near 1;", 1, 0);
        fault("thing a near1;", 1, 8);
        fault("thing a" + (char) 233 + " near 1;", 1, 7);
        fault("" + (char) 0, 1, 0);
    }

    private static void grammar() {
        fault(";", 1, 0);
        fault("near;", 1, 0);
        fault("ann;", 1, 0);
        fault("5;", 1, 0);
        fault("thing", 1, 5);
        fault("thing ", 1, 6);
        fault("thing a near 1", 1, 14);
        fault("thing a near 1  ", 1, 16);
        fault("thing a near 1 thing", 1, 15);
        fault("thing a bridge 1;", 1, 8);
        fault("thing a b 1;", 1, 8);
        fault("thing a near far;", 1, 13);
        fault("thing 5 near 1;", 1, 6);
        fault("thing ; near 1;", 1, 6);
        fault("person a near bridge;", 1, 14);
        fault("person a b far;", 1, 9);
        fault("person a near far 1;", 1, 18);
        fault("thing a near 1;person b near far;has b a;", 1, 40);
        fault("thing a near 1;asks bridge a 1;", 1, 20);
        fault("thing a near 1;asks a near 1;", 1, 20);
        fault("thing a near 1;;", 1, 15);
        for (String word : new String[] {"thing", "person", "has", "asks", "meets", "near", "bridge", "far", "goes",
            "joins", "parts", "trades", "ask", "day", "or", "and", "not", "pays", "met", "wants", "all", "stayed",
            "crossed", "number"}) {
            fault("thing " + word + " near 1;", 1, 6);
            fault("person " + word + " near far;", 1, 7);
            fault("has " + word, 1, 4);
        }
    }

    private static void numbers() {
        fault("thing a near 0;", 2, 13);
        fault("thing a near 10;", 2, 13);
        fault("thing a near 999;", 2, 13);
        String two = "thing a near 1;person b near far;";
        fault(two + "has b a 0;", 2, 41);
        fault(two + "has b a 13;", 2, 41);
        fault(two + "asks far a 0;", 2, 44);
        fault(two + "asks far a 13;", 2, 44);
        good(two + "has b a 12;asks far a 12;asks near a 1;", 5);
        good(two + "has b a 1;", 3);
    }

    private static void names() {
        fault("thing a near 1;thing a far 2;", 3, 21);
        fault("thing a near 1;person a far far;", 3, 22);
        fault("person a near far;thing a near 1;", 3, 24);
        fault("person a near far;person a near far;", 3, 25);
        String two = "thing a near 1;person b near far;";
        fault(two + "has c a 1;", 3, 37);
        fault(two + "has a a 1;", 3, 37);
        fault(two + "has b c 1;", 3, 39);
        fault(two + "has b b 1;", 3, 39);
        fault(two + "asks near b 1;", 3, 43);
        fault(two + "asks near c 1;", 3, 43);
        fault(two + "meets b c;", 3, 41);
        fault(two + "meets a b;", 3, 39);
        fault("has b a 1;" + two, 3, 4);
        fault(two + "has b c 77;", 3, 39);
    }

    private static void pairs() {
        String all = "thing a near 1;thing c far 1;person p near far;person q far far;person r far far;person s far far;";
        int n = all.length();
        good(all + "has p a 1;has p c 1;has q a 1;", 9);
        fault(all + "has p a 1;has p a 2;", 3, n + 16);
        good(all + "asks near a 1;asks far a 1;asks near c 1;", 9);
        fault(all + "asks near a 1;asks near a 1;", 3, n + 24);
        fault(all + "meets p p;", 3, n + 8);
        good(all + "meets p q;meets r s;", 8);
        fault(all + "meets p q;meets p r;", 3, n + 16);
        fault(all + "meets p q;meets r p;", 3, n + 18);
        fault(all + "meets p q;meets q p;", 3, n + 16);
        fault(all + "meets p q;meets r r;", 3, n + 18);
    }

    private static void tooMany() {
        StringBuilder things = new StringBuilder();
        StringBuilder persons = new StringBuilder();
        for (int i = 0; i < 6; i++) {
            things.append("thing t").append((char) ('a' + i)).append(" near 1;");
        }
        for (int i = 0; i < 8; i++) {
            persons.append("person p").append((char) ('a' + i)).append(" near far;");
        }
        good(things.toString() + persons, 14);
        fault(things + "thing", 4, things.length());
        fault(things + "thing ta near 1;", 4, things.length());
        fault(persons + " person x near far;", 4, persons.length() + 1);
        fault(persons + "person !", 4, persons.length());
        good(persons.toString() + things + "has ph tf 12;", 15);
    }

    private static void lengths() {
        String line = "thing a near 1;";
        good(line + Kit.times(" ", 900 - line.length()), 1);
        fault(line + Kit.times(" ", 901 - line.length()), 1, 900);
        fault(line + Kit.times(" ", 940 - line.length()), 1, 900);
        fault(Kit.times(" ", 940), 1, 900);
        fault(line + Kit.times(" ", 885 - line.length()) + "thing a near 1;" + Kit.times(" ", 20), 3, 891);
        fault(Kit.times(" ", 898) + "thing a near 1;", 1, 900);
        fault(Kit.times(" ", 899) + "thingthing", 1, 899);
        fault(Kit.times(" ", 899) + "nothing", 1, 899);
        fault(Kit.times(" ", 886) + line, 1, 900);
        good(Kit.times(" ", 885) + line, 1);
        fault(Kit.times(" ", 887) + "thing a near 10;", 1, 900);
        fault(Kit.times(" ", 886) + "thing a near 12;", 2, 899);
        fault(Kit.times(" ", 899) + "!", 1, 899);
        fault(Kit.times(" ", 900) + "!", 1, 900);
        fault(Kit.times(" ", 920) + "!", 1, 900);
    }

    private static void staysWithAFault() {
        BridgeToll x = Kit.on(Kit.TOWN);
        Kit.sentence(x, "near");
        x.days(3);
        Kit.bridge(x, "oops");
        K.is("4 day stays", x.now(0), 3);
        K.is("4 sentence stays", x.said(-1), 1);
        K.is("4 undo stays", x.undo(), 0);
    }

    private static void newBridge() {
        BridgeToll x = Kit.on(Kit.TOWN);
        Kit.sentence(x, "near");
        x.go(2, 1);
        x.days(3);
        K.is("4 new", Kit.bridge(x, "thing b far 2;person z near far;"), 2);
        K.is("4 day", x.now(0), 0);
        K.is("4 gone", x.now(5), 0);
        K.is("4 stayed", x.person(0, 2), 0);
        K.is("4 asks", x.asks(1, 0), 0);
        K.is("4 have", x.have(0, 0), 0);
        K.is("4 meets", x.person(0, 3), -1);
        K.is("4 no sentence", x.said(-1), -1);
        K.is("4 nothing to undo", x.undo(), -1);
        K.is("4 empty", Kit.bridge(x, ""), 0);
        K.is("4 no persons", x.count(1), 0);
        K.is("4 no things", x.count(0), 0);
    }
}
