/** Terms, 'A SENTENCE', and promises 37 and 38, edge by edge. */
public final class EdgeSentenceTest {
    private static final Kit K = new Kit();

    public static void main(String[] args) {
        twentyOnes();
        eightWithinOneAnother();
        besideOneAnother();
        numbersWithoutEnds();
        whatCantCome();
        ofWhom();
        oneShortAtAndBeyond();
        howManyAndWhich();
        noSentence();
        nobodyToSayItOf();
        aFaultLeavesIt();
        K.close();
    }

    /** 20 ONES: each not, each bracket and each other one. A 21st is a FAULT at its first TOKEN. */
    private static void twentyOnes() {
        for (int n = 1; n <= 23; n++) {
            for (String join : new String[] {" or ", " and "}) {
                String text = "far" + Kit.times(join + "far", n - 1);
                int at = 3 + 19 * (3 + join.length()) + join.length();
                K.sentenceIs(text, n <= 20 ? n : -1 - at, n <= 20 ? 0 : 4);
            }
        }
        // Nine pairs of two ONES each, and two more.
        String nine = Kit.times("not met or ", 9);
        K.sentenceIs(nine + "not met", 20, 0);
        K.sentenceIs(nine + "met or met", 20, 0);
        K.sentenceFault(nine + "met or not met", 4, nine.length() + 11);
        K.sentenceFault(nine + "not met or met", 4, nine.length() + 11);
        K.sentenceFault(nine + "not not met", 4, nine.length() + 8);
        String brackets = Kit.times("(met)or", 9);
        K.sentenceIs(brackets + "(met)", 20, 0);
        K.sentenceFault(brackets + "((met))", 4, brackets.length() + 2);
        K.sentenceFault(brackets + "(met or met)", 4, brackets.length() + 8);
        K.sentenceFault(brackets + "(met)or(met)", 4, brackets.length() + 7);
        String others = Kit.times("all<5 or ", 14) + Kit.times("pays far or ", 2) + "wants near or number>0 or stayed=1 or met";
        K.sentenceIs(others, 20, 0);
        K.sentenceFault(others + " or crossed=2", 4, others.length() + 4);
        for (String one : new String[] {"not", "(", "near", "bridge", "far", "pays", "met", "wants", "all", "stayed", "crossed",
            "number"}) {
            K.sentenceFault("far" + Kit.times(" or far", 19) + " or " + one, 4, 140);
        }
    }

    private static void eightWithinOneAnother() {
        for (int n = 1; n <= 11; n++) {
            String text = Kit.times("not ", n - 1) + "met";
            K.sentenceIs(text, n <= 8 ? n : -1 - 32, n <= 8 ? 0 : 4);
            text = Kit.times("(", n - 1) + "met" + Kit.times(")", n - 1);
            K.sentenceIs(text, n <= 8 ? n : -1 - 8, n <= 8 ? 0 : 4);
        }
        K.sentenceIs(Kit.times("not(", 3) + "not met" + Kit.times(")", 3), 8, 0);
        K.sentenceFault(Kit.times("not(", 3) + "not not met" + Kit.times(")", 3), 4, 12 + 8);
        K.sentenceFault(Kit.times("not(", 3) + "not (met)" + Kit.times(")", 3), 4, 12 + 5);
        K.sentenceFault(Kit.times("not(", 4) + "met" + Kit.times(")", 4), 4, 16);
        for (String one : new String[] {"not", "(", "near", "bridge", "far", "pays", "met", "wants", "all", "stayed", "crossed",
            "number"}) {
            K.sentenceFault(Kit.times("not ", 8) + one, 4, 32);
            K.sentenceFault(Kit.times("(", 8) + " " + one, 4, 9);
        }
    }

    /** What stands beside one another is not within one another. */
    private static void besideOneAnother() {
        String deep = Kit.times("not ", 7) + "met";
        K.sentenceIs(deep + " or " + deep, 16, 0);
        K.sentenceIs(deep + " and " + deep + " or met", 17, 0);
        String bracket = Kit.times("(", 7) + "met" + Kit.times(")", 7);
        K.sentenceIs(bracket + "and" + bracket, 16, 0);
        K.sentenceIs("(((((((met or met and met or met)))))))", 11, 0);
        K.sentenceFault("(((((((met or not met)))))))", 4, 18);
        K.sentenceIs("((((((met or not met))))))", 9, 0);
        K.sentenceFault("met or(met or(met or(met or(met or(met or(met or(met or(met", 4, 56);
    }

    private static void numbersWithoutEnds() {
        for (String word : new String[] {"all", "stayed", "crossed", "number"}) {
            for (String sign : new String[] {"<", "=", ">"}) {
                int at = word.length() + 1;
                K.sentenceIs(word + sign + "0", 1, 0);
                K.sentenceIs(word + sign + "999", 1, 0);
                K.sentenceIs(word + sign + "000", 1, 0);
                K.sentenceFault(word + sign + "1000", 1, at);
                K.sentenceFault(word + sign + "0000", 1, at);
                K.sentenceFault(word + sign, 1, at);
            }
        }
    }

    /** In each place every other TOKEN, no TOKEN and the end are FAULTS at it. */
    private static void whatCantCome() {
        String[] none = {"!", "x1", "abcdefgh", "1234", ";", ".", "thing", "goes", "day", "zoe"};
        String[] sorts = {"met", "5", "<", "(", ")", "and", "near", "bridge", "not", ""};
        String[][] places = {{"", "met ( near bridge not"}, {"not ", "met ( near bridge not"}, {"(", "met ( near bridge not"},
            {"met and ", "met ( near bridge not"}, {"met or ", "met ( near bridge not"}, {"met ", "and end"}, {"(met ", ") and"},
            {"pays ", "near"}, {"wants ", "near"}, {"all ", "<"}, {"stayed ", "<"}, {"crossed ", "<"}, {"number ", "<"},
            {"all <", "5"}, {"number >", "5"}, {"all < 5 ", "and end"}, {"pays far ", "and end"}, {"(met) ", "and end"},
            {"((met) ", ") and"}, {"not met ", "and end"}};
        for (String[] place : places) {
            for (String token : none) {
                K.sentenceFault(place[0] + token, 1, place[0].length());
            }
            for (String token : sorts) {
                boolean canCome = (" " + place[1] + " ").contains(" " + (token.isEmpty() ? "end" : token) + " ");
                if (!canCome) {
                    K.sentenceFault(place[0] + token, 1, place[0].length());
                }
            }
        }
    }

    /** PERSON 0 near, 1 bridge, 2 far; 3 and 4 on the bridge, where they meet. */
    private static BridgeToll town() {
        BridgeToll x = Kit.on("thing a near 9;thing b far 9;person p near near;person q bridge near;person r far far;person s bridge far;"
                + "person t bridge near;has q a 3;has r a 2;has s b 6;has t a 1;has t b 5;asks near a 2;asks far b 6;meets t s;");
        x.days(2);
        x.go(0, 1);
        x.go(2, 1);
        x.days(1);
        return x;
    }

    private static void says(String text, int... who) {
        BridgeToll x = town();
        K.is("[" + text + "] is one", Kit.sentence(x, text) > 0, true);
        K.is("how many of [" + text + "]", x.said(-1), who.length);
        for (int k = 0; k < who.length; k++) {
            K.is("the " + k + "th of [" + text + "]", x.said(k), who[k]);
        }
        K.is("behind all of [" + text + "]", x.said(who.length), -1);
    }

    private static void ofWhom() {
        says("near");
        says("bridge", 0, 1, 2, 3, 4);
        says("far");
        says("met", 3, 4);
        says("not met", 0, 1, 2);
        says("wants near", 0, 1, 4);
        says("wants far", 2, 3);
        says("pays near", 1, 2);
        says("pays far", 3);
        says("crossed = 1", 0, 2);
        says("stayed = 1", 0, 2);
        says("stayed = 3", 1, 3, 4);
        BridgeToll x = Kit.on("person p near near;person q bridge near;person r far near;");
        String[] places = {"near", "bridge", "far"};
        for (int place = 0; place < 3; place++) {
            Kit.sentence(x, places[place]);
            K.is("he is there", x.said(-1), 1);
            K.is("he is there", x.said(0), place);
        }
    }

    /** SIGNS by what is one less, just so and one more; of PAYING by the toll. */
    private static void oneShortAtAndBeyond() {
        String[] words = {"all", "stayed", "crossed", "number"};
        BridgeToll x = Kit.on("thing a far 1;thing b far 1;person p near far;person q near far;person r near far;has r a 3;has r b 2;");
        x.go(2, 1);
        x.go(2, 0);
        x.go(2, 1);
        x.go(2, 0);
        x.days(4);
        int[] value = {5, 4, 4, 2};
        for (int i = 0; i < 4; i++) {
            for (int n = value[i] - 1; n <= value[i] + 1; n++) {
                String[] signs = {"<", "=", ">"};
                boolean[] due = {value[i] < n, value[i] == n, value[i] > n};
                for (int s = 0; s < 3; s++) {
                    Kit.sentence(x, words[i] + signs[s] + n + " and number=2");
                    K.is(words[i] + " " + value[i] + signs[s] + n, x.said(-1), due[s] ? 1 : 0);
                }
            }
        }
        for (int n = 2; n <= 4; n++) {
            x.ask(1, 0, n);
            Kit.sentence(x, "pays far");
            K.is("3 where " + n + " are asked", x.said(0), n <= 3 ? 2 : -1);
        }
        Kit.sentence(x, "number > 2");
        K.is("no number beyond the last", x.said(-1), 0);
        Kit.sentence(x, "number < 0");
        K.is("nothing is below 0", x.said(-1), 0);
        Kit.sentence(x, "all < 999");
        K.is("all below 999", x.said(-1), 3);
    }

    private static void howManyAndWhich() {
        BridgeToll x = Kit.on(Kit.persons(8, "far", "far"));
        Kit.sentence(x, "far");
        K.is("all eight", x.said(-1), 8);
        for (int k = 0; k < 8; k++) {
            K.is("the k-th", x.said(k), k);
        }
        for (int k : new int[] {Integer.MIN_VALUE, -3, -2, 8, 9, Integer.MAX_VALUE}) {
            K.is("none such, " + k, x.said(k), -1);
        }
        Kit.sentence(x, "number > 4");
        K.is("three", x.said(-1), 3);
        K.is("the first", x.said(0), 5);
        K.is("the last", x.said(2), 7);
        K.is("none such", x.said(3), -1);
        Kit.sentence(x, "near");
        K.is("nobody", x.said(-1), 0);
        K.is("none such", x.said(0), -1);
    }

    private static void noSentence() {
        BridgeToll x = new BridgeToll();
        for (int k : new int[] {-2, -1, 0, 1, 8}) {
            K.is("no SENTENCE", x.said(k), -1);
        }
        Kit.sentence(x, "!");
        K.is("still none behind a FAULT", x.said(-1), -1);
        K.is("no ONE is no SENTENCE", x.sentence(), -1);
        K.is("still none", x.said(-1), -1);
        Kit.sentence(x, "near");
        K.is("one now", x.said(-1), 0);
        x.bridge();
        K.is("none behind a new BRIDGE", x.said(-1), -1);
        Kit.sentence(x, "near");
        x.image(0);
        Kit.bridge(x, Kit.TOWN);
        x.image(1);
        K.is("none", x.said(-1), -1);
        x.restore(0);
        K.is("the kept one", x.said(-1), 0);
        x.restore(1);
        K.is("none was kept", x.said(-1), -1);
    }

    private static void nobodyToSayItOf() {
        BridgeToll x = new BridgeToll();
        K.is("a SENTENCE", Kit.sentence(x, "not near"), 2);
        K.is("nobody", x.said(-1), 0);
        K.is("none such", x.said(0), -1);
    }

    private static void aFaultLeavesIt() {
        BridgeToll x = Kit.on(Kit.persons(3, "far", "far"));
        Kit.sentence(x, "number = 1 or number = 2");
        for (String text : new String[] {"", "!", "near near", "near and", "far" + Kit.times(" or far", 20), Kit.times("not ", 9)}) {
            K.is("a FAULT", Kit.sentence(x, text) < 0, true);
            K.is("it stays", x.said(-1), 2);
            K.is("it stays", x.said(0), 1);
            K.is("it stays", x.said(1), 2);
        }
        Kit.sentence(x, "number = 0");
        K.is("the new one", x.said(-1), 1);
        K.is("the new one", x.said(0), 0);
    }
}
