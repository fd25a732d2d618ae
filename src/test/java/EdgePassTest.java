/** Promises 31 and 32, edge by edge. */
public final class EdgePassTest {
    private static final Kit K = new Kit();

    public static void main(String[] args) {
        whichOnes();
        whichBytes();
        justTheToll();
        howMuchLess();
        theFirstThing();
        theEndThatHeWants();
        namesOfAnyLength();
        theLatest();
        K.close();
    }

    private static void pass(BridgeToll x, int p, String due) {
        K.is("how many bytes of [" + due + "]", x.pass(p), due.length());
        for (int i = 0; i < due.length(); i++) {
            K.is("byte " + i + " of [" + due + "]", x.byteAt(i), due.charAt(i));
        }
        K.is("behind [" + due + "]", x.byteAt(due.length()), -1);
        K.is("ahead of [" + due + "]", x.byteAt(-1), -1);
    }

    private static void whichOnes() {
        for (int persons : new int[] {0, 1, 7, 8}) {
            BridgeToll x = Kit.on(Kit.persons(persons, "near", "far"));
            for (int p : new int[] {Integer.MIN_VALUE, -2, -1, 0, 1, 6, 7, 8, 9, Integer.MAX_VALUE}) {
                K.is("pass(" + p + ") of " + persons, x.pass(p), p >= 0 && p < persons ? 9 : -1);
            }
        }
    }

    private static void whichBytes() {
        BridgeToll x = Kit.on("person p near far;");
        for (int i : new int[] {Integer.MIN_VALUE, -1, 0, 1, Integer.MAX_VALUE}) {
            K.is("ahead of any", x.byteAt(i), -1);
        }
        x.pass(0);
        for (int i : new int[] {Integer.MIN_VALUE, -2, -1, 8, 9, 23, 24, 25, Integer.MAX_VALUE}) {
            K.is("none such", x.byteAt(i), -1);
        }
        K.is("the first", x.byteAt(0), 'p');
        K.is("the last", x.byteAt(7), 'o');
    }

    private static void justTheToll() {
        for (int n = 3; n <= 5; n++) {
            BridgeToll x = Kit.on("thing a near 1;person p near far;has p a 4;asks far a " + n + ";");
            pass(x, 0, n <= 4 ? "p may go" : "p lacks a 1");
        }
    }

    private static void howMuchLess() {
        for (int n = 1; n <= 12; n++) {
            pass(Kit.on("thing a near 1;person p near far;asks far a " + n + ";"), 0, "p lacks a " + n);
            pass(Kit.on("thing a near 1;person p near far;has p a " + n + ";asks far a 12;"), 0,
                    n == 12 ? "p may go" : "p lacks a " + (12 - n));
        }
    }

    private static void theFirstThing() {
        for (int first = 0; first < 6; first++) {
            StringBuilder text = new StringBuilder(Kit.things(6)).append("person p near far;");
            for (int t = 0; t < 6; t++) {
                text.append("asks far t").append((char) ('a' + t)).append(" 3;");
            }
            for (int t = 0; t < first; t++) {
                text.append("has p t").append((char) ('a' + t)).append(" 3;");
            }
            pass(Kit.on(text.toString()), 0, "p lacks t" + (char) ('a' + first) + " 3");
        }
    }

    private static void theEndThatHeWants() {
        BridgeToll x = Kit.on("thing a near 1;person p near far;person q near near;asks near a 2;");
        pass(x, 0, "p may go");
        pass(x, 1, "q lacks a 2");
        x.ask(1, 0, 3);
        x.ask(0, 0, 0);
        pass(x, 0, "p lacks a 3");
        pass(x, 1, "q may go");
    }

    private static void namesOfAnyLength() {
        String letters = "zyaxwbv";
        for (int n = 1; n <= 7; n++) {
            for (int m = 1; m <= 7; m++) {
                String person = letters.substring(0, n);
                String thing = "k" + letters.substring(7 - m + 1);
                BridgeToll x = Kit.on("thing " + thing + " far 1;person " + person + " near far;asks far " + thing + " 12;");
                pass(x, 0, person + " lacks " + thing + " 12");
                x.ask(1, 0, 0);
                pass(x, 0, person + " may go");
            }
        }
        pass(Kit.on("person aaaaaaa near far;person aaaaaa far far;"), 0, "aaaaaaa may go");
        pass(Kit.on("person aaaaaaa near far;person aaaaaa far far;"), 1, "aaaaaa may go");
        pass(Kit.on("person zzzzzzz near far;"), 0, "zzzzzzz may go");
        for (char c = 'a'; c <= 'z'; c++) {
            pass(Kit.on("person " + c + " near far;"), 0, c + " may go");
        }
    }

    private static void theLatest() {
        BridgeToll x = Kit.on("thing a near 1;person longer near far;person q near near;asks far a 12;");
        pass(x, 0, "longer lacks a 12");
        pass(x, 1, "q may go");
        K.is("nothing is left of the longer one", x.byteAt(8), -1);
        K.is("nothing is left of the longer one", x.byteAt(16), -1);
        K.is("no such one", x.pass(2), -1);
        K.is("no such one", x.pass(-1), -1);
        K.is("the latest PASS stays", x.byteAt(0), 'q');
        K.is("the latest PASS stays", x.byteAt(7), 'o');
        x.days(60);
        Kit.bridge(x, "");
        K.is("it stays as it was", x.byteAt(0), 'q');
    }
}
