/** Terms, edge by edge: what is a TOKEN, how long a text may be, which FAULT is told and where. */
public final class EdgeTokensTest {
    private static final Kit K = new Kit();
    private static final String TWO = "thing a near 1;person p near far;";

    public static void main(String[] args) {
        eachByteBehindALine();
        eachByteAsAWord();
        eachByteAsANumber();
        eachByteAsASign();
        eachByteWithinAWord();
        wordsOfOneToSevenLetters();
        numbersOfOneToThreeDigits();
        runsOfLettersAndDigits();
        blanksOrNone();
        theEndIsHowManyBytesThereAre();
        mostBytesOfABridge();
        mostBytesOfABook();
        mostBytesOfASentence();
        firstAlongTheText();
        leastOfOneToken();
        K.close();
    }

    private static void bridge(String text, int answer, int kind) {
        K.bridgeIs(text, answer, kind);
    }

    private static void bridgeFault(String text, int kind, int place) {
        K.bridgeFault(text, kind, place);
    }

    private static void book(String text, int answer, int kind) {
        K.bookIs(TWO, text, answer, kind);
    }

    private static void bookFault(String text, int kind, int place) {
        K.bookFault(TWO, text, kind, place);
    }

    private static void sentence(String text, int answer, int kind) {
        K.sentenceIs(text, answer, kind);
    }

    private static void sentenceFault(String text, int kind, int place) {
        K.sentenceFault(text, kind, place);
    }

    private static boolean isLetter(int b) {
        return b >= 97 && b <= 122;
    }

    private static boolean isDigit(int b) {
        return b >= 48 && b <= 57;
    }

    /** Blanks are 32 and 10 alone; all that is no TOKEN is a FAULT where it stands. */
    private static void eachByteBehindALine() {
        for (int b = 0; b < 256; b++) {
            String text = "thing a near 1;" + (char) b;
            bridge(text, b == 32 || b == 10 ? 1 : -16, b == 32 || b == 10 ? 0 : 1);
        }
    }

    /** A WORD is of small letters: a (97) to z (122), neither 96 nor 123. */
    private static void eachByteAsAWord() {
        for (int b = 0; b < 256; b++) {
            String text = "thing " + (char) b + " near 1;";
            if (isLetter(b)) {
                bridge(text, 1, 0);
            } else {
                bridgeFault(text, 1, b == 32 || b == 10 ? 8 : 6);
            }
        }
    }

    /** A NUMBER is of digits: 0 (48) to 9 (57), neither 47 nor 58. */
    private static void eachByteAsANumber() {
        for (int b = 0; b < 256; b++) {
            String text = "thing a near " + (char) b + ";";
            if (b >= 49 && b <= 57) {
                bridge(text, 1, 0);
            } else if (b == 48) {
                bridgeFault(text, 2, 13);
            } else {
                bridgeFault(text, 1, b == 32 || b == 10 ? 14 : 13);
            }
        }
    }

    /** SIGNS are < = > (60 to 62), neither 59 nor 63; brackets are 40 and 41, neither 39 nor 42. */
    private static void eachByteAsASign() {
        for (int b = 0; b < 256; b++) {
            String text = "all" + (char) b + "5";
            if (b >= 60 && b <= 62) {
                sentence(text, 1, 0);
            } else if (isLetter(b) || isDigit(b)) {
                sentenceFault(text, 1, 0);
            } else {
                sentenceFault(text, 1, b == 32 || b == 10 ? 4 : 3);
            }
            if (b == 40) {
                sentence((char) b + "far)", 2, 0);
            } else if (b == 32 || b == 10) {
                sentenceFault((char) b + "far)", 1, 4);
            } else {
                sentenceFault((char) b + "far)", 1, 0);
            }
            if (b == 41) {
                sentence("(far" + (char) b, 2, 0);
            } else if (isLetter(b) || isDigit(b)) {
                sentenceFault("(far" + (char) b, 1, 1);
            } else {
                sentenceFault("(far" + (char) b, 1, b == 32 || b == 10 ? 5 : 4);
            }
        }
    }

    /** Any byte but a letter or a digit ends a WORD; a digit spoils it. */
    private static void eachByteWithinAWord() {
        for (int b = 0; b < 256; b++) {
            String text = "thing a" + (char) b + "b near 1;";
            if (isLetter(b)) {
                bridge(text, 1, 0);
            } else if (isDigit(b)) {
                bridgeFault(text, 1, 6);
            } else {
                bridgeFault(text, 1, b == 32 || b == 10 ? 8 : 7);
            }
        }
    }

    private static void wordsOfOneToSevenLetters() {
        for (String letters : new String[] {"abcdefghi", "zzzzzzzzz", "aaaaaaaaa"}) {
            for (int n = 1; n <= 9; n++) {
                String name = letters.substring(0, n);
                bridge("thing " + name + " far 9;", n <= 7 ? 1 : -7, n <= 7 ? 0 : 1);
                bridge("person " + name + " far near;", n <= 7 ? 1 : -8, n <= 7 ? 0 : 1);
            }
        }
        bridgeFault("thing " + Kit.times("a", 300) + " far 9;", 1, 6);
        // All seven letters count, the first and the last too, and so does how many there are.
        String[] names = {"abcdefg", "abcdefh", "bbcdefg", "abcdef", "bcdefg", "a"};
        StringBuilder all = new StringBuilder();
        for (String name : names) {
            all.append("thing ").append(name).append(" near 1;");
        }
        bridge(all.toString(), 6, 0);
        BridgeToll x = Kit.on(all + "person z near far;asks far abcdef 3;asks far a 5;");
        K.is("the NAME told is the one meant", x.asks(1, 3), 3);
        K.is("the NAME told is the one meant", x.asks(1, 5), 5);
        K.is("the NAME told is the one meant", x.lacks(0, 1), 8 | 32);
        bookFault("abcdefgh", 1, 0);
        bookFault("abcdefg", 3, 0);
        sentenceFault("crosseds = 1", 1, 0);
    }

    private static void numbersOfOneToThreeDigits() {
        bridge("thing a near 9;", 1, 0);
        bridge("thing a near 09;", 1, 0);
        bridge("thing a near 009;", 1, 0);
        bridgeFault("thing a near 0009;", 1, 13);
        bridgeFault("thing a near 99;", 2, 13);
        bridgeFault("thing a near 999;", 2, 13);
        bridgeFault("thing a near 9999;", 1, 13);
        bridgeFault("thing a near 4294967297;", 1, 13);
        bridgeFault("thing a near 18446744073709551617;", 1, 13);
        book("day 060;", -1, 0);
        bookFault("day 0060;", 1, 4);
        sentence("all<0", 1, 0);
        sentence("all<999", 1, 0);
        sentenceFault("all<1000", 1, 4);
        sentenceFault("all<0000", 1, 4);
    }

    /** A WORD or NUMBER goes on as long as letters and digits do, and is none if they are mixed. */
    private static void runsOfLettersAndDigits() {
        bridgeFault("thing a1 near 1;", 1, 6);
        bridgeFault("thing 1a near 1;", 1, 6);
        bridgeFault("thing a near1;", 1, 8);
        bridgeFault("thing a near 1a;", 1, 13);
        bridgeFault("thing a near 1thing", 1, 13);
        bridgeFault("thinga near 1;", 1, 0);
        bridgeFault("thing a far9;", 1, 8);
        bookFault("day5;", 1, 0);
        sentenceFault("near and1", 1, 5);
        sentenceFault("number=1and near", 1, 7);
        sentenceFault("nearand far", 1, 0);
    }

    private static void blanksOrNone() {
        bridge("thing a near 1;thing b far 1;", 2, 0);
        bridge(" \n thing\na\n\nnear  1\n;\n ", 1, 0);
        bridge("\n", 0, 0);
        bridge(" ", 0, 0);
        bridge("", 0, 0);
        book("\nday\n1\n;\n", -1, 0);
        book("day 1;day 1;", -1, 0);
        sentence("(all<5)and(not(near))or stayed=0", 7, 0);
        sentence("\n(\nall\n<\n5\n)\n", 2, 0);
    }

    private static void theEndIsHowManyBytesThereAre() {
        String line = "thing a near 1;";
        // Where a text that is cut behind n bytes can't go on.
        int[] place = {-1, 0, 0, 0, 0, 5, 6, 7, 8, 8, 8, 8, 12, 13, 14};
        bridge(line, 1, 0);
        bridge("", 0, 0);
        for (int n = 1; n < line.length(); n++) {
            bridgeFault(line.substring(0, n), 1, place[n]);
        }
        bridgeFault("thing a near 1   ", 1, 17);
        bridgeFault("thing a near 1\n", 1, 15);
        bookFault("day", 1, 3);
        bookFault("day  ", 1, 5);
        bookFault("day 1", 1, 5);
        bookFault("p parts \n", 1, 9);
        sentenceFault("", 1, 0);
        sentenceFault(" ", 1, 1);
        sentenceFault("not", 1, 3);
        sentenceFault("(near \n ", 1, 8);
        sentenceFault("all =", 1, 5);
    }

    private static String blanks(int n) {
        return Kit.times(" ", n);
    }

    private static void mostBytesOfABridge() {
        String line = "thing a near 1;";
        bridge(line + blanks(899 - 15), 1, 0);
        bridge(line + blanks(900 - 15), 1, 0);
        bridgeFault(line + blanks(901 - 15), 1, 900);
        bridgeFault(line + blanks(940 - 15), 1, 900);
        bridge(blanks(884) + line, 1, 0);
        bridge(blanks(885) + line, 1, 0);
        bridgeFault(blanks(886) + line, 1, 900);
        bridge(blanks(900), 0, 0);
        bridgeFault(blanks(901), 1, 900);
        // A FAULT ahead goes ahead of the length.
        bridgeFault("near" + blanks(936), 1, 0);
        bridgeFault(blanks(890) + "thing;" + blanks(40), 1, 895);
        bridgeFault(blanks(884) + "thing a near 0;" + blanks(40), 2, 897);
        bridgeFault(blanks(899) + "!", 1, 899);
        bridgeFault(blanks(900) + "!", 1, 900);
        // What begins ahead of the most bytes is read whole.
        bridgeFault(blanks(899) + "thing", 1, 900);
        bridgeFault(blanks(899) + "things", 1, 899);
        bridgeFault(blanks(895) + "thing", 1, 900);
        bridgeFault(blanks(899) + "t", 1, 899);
        bridgeFault(blanks(886) + "thing a near 10;", 2, 899);
        bridgeFault(blanks(886) + "thing a near 009;", 1, 900);
        bridgeFault(blanks(886) + "thing a near 0009;", 1, 899);
        bridgeFault(blanks(900) + "things", 1, 900);
        bridgeFault(blanks(887) + "thing a near 0;", 1, 900);
    }

    private static void mostBytesOfABook() {
        book("day 1;" + blanks(393), -1, 0);
        book("day 1;" + blanks(394), -1, 0);
        bookFault("day 1;" + blanks(395), 1, 400);
        bookFault("day 1;" + blanks(934), 1, 400);
        book(blanks(394) + "day 1;", -1, 0);
        bookFault(blanks(395) + "day 1;", 1, 400);
        bookFault(blanks(401), 1, 400);
        book(blanks(400), -1, 0);
        bookFault("near" + blanks(500), 1, 0);
        bookFault(blanks(395) + "day 61;", 2, 399);
        bookFault(blanks(395) + "day 060;", 1, 400);
        bookFault(blanks(396) + "day 61;", 1, 400);
        bookFault(blanks(399) + "zoe", 3, 399);
        bookFault(blanks(400) + "zoe", 1, 400);
        bookFault(blanks(399) + "p", 1, 400);
        bookFault(blanks(399) + "day", 1, 400);
        // A 41st LINE ahead of the most bytes, and none of 40 behind it.
        bookFault(Kit.times("day 1;", 40) + blanks(159) + "day", 4, 399);
        bookFault(Kit.times("day 1;", 40) + blanks(160) + "day", 1, 400);
    }

    private static void mostBytesOfASentence() {
        sentence("far" + blanks(196), 1, 0);
        sentence("far" + blanks(197), 1, 0);
        sentenceFault("far" + blanks(198), 1, 200);
        sentenceFault("far" + blanks(937), 1, 200);
        sentence(blanks(197) + "far", 1, 0);
        sentenceFault(blanks(198) + "far", 1, 200);
        sentenceFault(blanks(199) + "far", 1, 200);
        sentenceFault(blanks(199) + "fan", 1, 199);
        sentenceFault(blanks(200) + "fan", 1, 200);
        sentenceFault(blanks(200), 1, 200);
        sentenceFault(blanks(201), 1, 200);
        sentenceFault("and" + blanks(400), 1, 0);
        sentenceFault(blanks(195) + "all<999", 1, 200);
        sentenceFault(blanks(195) + "all<9999", 1, 199);
        String twenty = "far" + Kit.times(" or far", 19);
        sentenceFault(twenty + " or" + blanks(59) + "far", 4, 198);
        sentenceFault(twenty + " or" + blanks(60) + "far", 4, 199);
        sentenceFault(twenty + " or" + blanks(61) + "far", 1, 200);
        sentenceFault(twenty + " or" + blanks(62) + "far", 1, 200);
    }

    /** Of several FAULTS the first along the text, whatever their kinds are. */
    private static void firstAlongTheText() {
        String[] wrong = {"", "near;", "thing b near 0;", "has p p 1;", "person x near far;"};
        StringBuilder eight = new StringBuilder("thing a near 1;person p near far;");
        for (int i = 0; i < 7; i++) {
            eight.append("person q").append((char) ('a' + i)).append(" near far;");
        }
        int n = eight.length();
        int[] place = {0, 0, 13, 6, 0};
        for (int first = 1; first <= 4; first++) {
            for (int second = 1; second <= 4; second++) {
                bridgeFault(eight + wrong[first] + wrong[second], first, n + place[first]);
            }
        }
        bookFault("day 0;near;", 2, 4);
        bookFault("zoe parts;day 0;", 3, 0);
        bookFault("day 61;zoe parts;", 2, 4);
        bookFault(Kit.times("day 1;", 40) + "day 0;", 4, 240);
        sentenceFault("near near" + Kit.times(" or near", 20), 1, 5);
    }

    private static void leastOfOneToken() {
        String forty = Kit.times("day 1;", 40);
        bookFault(forty + "p parts;", 4, 240);
        bookFault(forty + "zoe parts;", 3, 240);
        bookFault(forty + "a parts;", 3, 240);
        bookFault(forty + "goes", 1, 240);
        bookFault(forty + "P", 1, 240);
        bookFault(forty + "1", 1, 240);
        String twenty = "far" + Kit.times(" or far", 19);
        sentenceFault(twenty + " or far", 4, 140);
        sentenceFault(twenty + " or (far)", 4, 140);
        sentenceFault(twenty + " or not far", 4, 140);
        sentenceFault(twenty + " or or", 1, 140);
        sentenceFault(twenty + " or fan", 1, 140);
        sentenceFault(twenty + " or ", 1, 140);
        sentenceFault(Kit.times("(", 8) + "far", 4, 8);
        sentenceFault(Kit.times("(", 8) + "fan", 1, 8);
        sentenceFault(Kit.times("(", 8) + ")", 1, 8);
        sentenceFault(Kit.times("(", 8), 1, 8);
    }
}
