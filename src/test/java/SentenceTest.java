/** Promises 37 and 38, and the FAULTS of a SENTENCE. */
public final class SentenceTest {
    private static final Kit K = new Kit();

    public static void main(String[] args) {
        meaning();
        precedence();
        asking();
        faults();
        limits();
        lengths();
        staysAndGoes();
        K.close();
    }

    private static BridgeToll town() {
        BridgeToll x = Kit.on(Kit.TOWN);
        x.days(1);
        x.go(2, 1);
        x.days(2);
        return x;
    }

    private static void says(String text, int ones, int who) {
        BridgeToll x = town();
        K.is("37 [" + text + "]", Kit.sentence(x, text), ones);
        K.is("5 [" + text + "]", x.fault(), 0);
        K.is("37 the tape is empty", x.count(2), 0);
        int bits = 0;
        int n = x.said(-1);
        K.is("38 count [" + text + "]", n, Integer.bitCount(who));
        for (int k = 0; k < n; k++) {
            bits |= 1 << x.said(k);
        }
        K.is("38 [" + text + "]", bits, who);
        K.is("38 none such", x.said(n), -1);
        K.is("38 none such", x.said(-2), -1);
    }

    /** ann, bob on the bridge (3 days, they meet), cid there (2 days), dot far. */
    private static void meaning() {
        says("near", 1, 0);
        says("bridge", 1, 7);
        says("far", 1, 8);
        says("pays far", 2 - 1, 1 | 2 | 8);
        says("pays near", 1, 0);
        says("met", 1, 3);
        says("wants far", 1, 1 | 4 | 8);
        says("wants near", 1, 2);
        says("stayed = 2", 1, 4);
        says("stayed > 2", 1, 1 | 2 | 8);
        says("stayed < 3", 1, 4);
        says("crossed = 1", 1, 4);
        says("crossed = 0", 1, 11);
        says("crossed>0", 1, 4);
        says("number < 2", 1, 3);
        says("number = 2", 1, 4);
        says("number > 2", 1, 8);
        says("all = 3", 1, 4);
        says("all > 3", 1, 11);
        says("all < 999", 1, 15);
        says("all>000", 1, 15);
        BridgeToll x = town();
        for (int p = 0; p < 4; p++) {
            Kit.sentence(x, "all = " + x.person(p, 5) + " and number = " + p);
            K.is("38 all", x.said(0), p);
        }
    }

    private static void precedence() {
        says("not bridge", 2, 8);
        says("not not bridge", 3, 7);
        says("not not not bridge", 4, 8);
        says("(bridge)", 2, 7);
        says("((bridge))", 3, 7);
        says("not (bridge and met)", 4, 12);
        says("not bridge and met", 3, 0);
        says("not met or bridge", 3, 15);
        says("number=0 or number=1 and far", 3, 1);
        says("(number=0 or number=1) and far", 4, 0);
        says("far and number=0 or number=1", 3, 2);
        says("far or number=0 and met or number=2", 4, 13);
        says("number=1 and met and bridge", 3, 2);
        says("number=1 or number=2 or number=3", 3, 14);
        says("not(number=1 or far)and(met or far)", 7, 1);
        says("wants far and not(pays far or number = 0)", 5, 4);
        says("met\nand\nnumber = 1", 2, 2);
    }

    private static void asking() {
        BridgeToll x = new BridgeToll();
        K.is("38 no sentence", x.said(-1), -1);
        K.is("38 no sentence", x.said(0), -1);
        K.is("37 on an empty bridge", Kit.sentence(x, "near or not near"), 3);
        K.is("38 nobody", x.said(-1), 0);
        K.is("38 nobody", x.said(0), -1);
        x = town();
        Kit.sentence(x, "bridge");
        K.is("38 as it is now", x.said(-1), 3);
        x.go(0, 2);
        K.is("38 as it is now", x.said(-1), 2);
        K.is("38 first", x.said(0), 1);
        K.is("38 second", x.said(1), 2);
        K.is("38 none such", x.said(2), -1);
        K.is("38 none such", x.said(Integer.MAX_VALUE), -1);
        K.is("38 none such", x.said(Integer.MIN_VALUE), -1);
    }

    private static void fault(String text, int kind, int place) {
        BridgeToll x = town();
        Kit.sentence(x, "far");
        K.is("37 [" + text + "]", Kit.sentence(x, text), -1 - place);
        K.is("5 [" + text + "]", x.fault(), kind);
        K.is("37 the tape is empty", x.count(2), 0);
        K.is("37 it stays", x.said(0), 3);
        K.is("37 it stays", x.said(-1), 1);
    }

    private static void faults() {
        fault("", 1, 0);
        fault("  ", 1, 2);
        fault("ann", 1, 0);
        fault("and", 1, 0);
        fault("or", 1, 0);
        fault("5", 1, 0);
        fault(";", 1, 0);
        fault("day", 1, 0);
        fault("Near", 1, 0);
        fault("near far", 1, 5);
        fault("near;", 1, 4);
        fault("near.", 1, 4);
        fault("near and", 1, 8);
        fault("near or ", 1, 8);
        fault("near and and far", 1, 9);
        fault("near or and far", 1, 8);
        fault("not", 1, 3);
        fault("not and", 1, 4);
        fault("(near", 1, 5);
        fault("()", 1, 1);
        fault("near)", 1, 4);
        fault("(near))", 1, 6);
        fault("pays", 1, 4);
        fault("pays bridge", 1, 5);
        fault("wants ann", 1, 6);
        fault("wants (", 1, 6);
        fault("all", 1, 3);
        fault("all 5", 1, 4);
        fault("all =", 1, 5);
        fault("all = near", 1, 6);
        fault("all = 1000", 1, 6);
        fault("all == 1", 1, 5);
        fault("all ( 1", 1, 4);
        fault("all ; 1", 1, 4);
        fault("near 5", 1, 5);
        fault("number = 5 5", 1, 11);
    }

    private static void limits() {
        says("near" + Kit.times(" or near", 19), 20, 0);
        fault("near" + Kit.times(" or near", 20), 4, 4 + 19 * 8 + 4);
        fault("met" + Kit.times(" or met", 19) + " or ann", 1, 3 + 19 * 7 + 4);
        fault("met" + Kit.times(" or met", 19) + " or (", 4, 3 + 19 * 7 + 4);
        fault("met" + Kit.times(" or met", 19) + " or )", 1, 3 + 19 * 7 + 4);
        says(Kit.times("not ", 7) + "bridge", 8, 8);
        fault(Kit.times("not ", 8) + "bridge", 4, 32);
        fault(Kit.times("not ", 8) + "ann", 1, 32);
        fault(Kit.times("not ", 8), 1, 32);
        says(Kit.times("(", 7) + "far" + Kit.times(")", 7), 8, 8);
        fault(Kit.times("(", 8) + "far" + Kit.times(")", 8), 4, 8);
        fault(Kit.times("(", 9), 4, 8);
        fault(Kit.times("not(", 4) + "far))))", 4, 16);
        says(Kit.times("not(", 3) + "not far and met" + Kit.times(")", 3), 9, 0xF & ~3);
        says("((((((far or met))))))and((((((far or met))))))", 16, 11);
        says(Kit.times("(met and ", 7) + "met" + Kit.times(")", 7), 15, 3);
        fault("(met and ((((((not met))))))) or met", 4, 19);
    }

    private static void lengths() {
        says(Kit.times(" ", 197) + "far", 1, 8);
        says("far" + Kit.times(" ", 197), 1, 8);
        fault("far" + Kit.times(" ", 198), 1, 200);
        fault(Kit.times(" ", 199) + "far", 1, 200);
        fault(Kit.times(" ", 199) + "ann", 1, 199);
        fault(Kit.times(" ", 200) + "ann", 1, 200);
        fault(Kit.times(" ", 700) + "ann", 1, 200);
    }

    private static void staysAndGoes() {
        BridgeToll x = town();
        Kit.sentence(x, "bridge");
        x.undo();
        x.undo();
        K.is("37 undo leaves it", x.said(-1), 2);
        Kit.book(x, "cid goes bridge;", 1);
        K.is("37 book leaves it", x.said(-1), 3);
        Kit.bridge(x, "oops");
        K.is("37 a fault leaves it", x.said(-1), 3);
        Kit.bridge(x, "person a bridge far;");
        K.is("37 a new bridge has none", x.said(-1), -1);
    }
}
