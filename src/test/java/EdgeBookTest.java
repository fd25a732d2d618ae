/** Terms, 'A BOOK', and promises 35 and 36, edge by edge. */
public final class EdgeBookTest {
    private static final Kit K = new Kit();
    private static final String TOWN = Kit.TOWN;

    public static void main(String[] args) {
        numbersOfAsking();
        numbersOfDays();
        fortyLines();
        noLine();
        whichLives();
        whatIsTold();
        whatCantCome();
        namesOfThisBridge();
        whyWrong();
        whichLineIsWrong();
        fewerDaysAreLeft();
        asByHand();
        faultsLiveNothing();
        toldOfTheLatest();
        toldOfThen();
        K.close();
    }

    /** N: 0 to 12. */
    private static void numbersOfAsking() {
        for (String end : new String[] {"near", "far"}) {
            for (int n = 0; n <= 15; n++) {
                String ask = "ask " + end + " dog ";
                // Just so many of dog are asked at no END but by 0.
                K.bookIs(TOWN, ask + n + ";", n > 12 ? -2 - ask.length() : n == 0 ? 0 : -1, n > 12 ? 2 : 0);
            }
        }
        K.bookIs(TOWN, "ask far dog 012;", -1, 0);
        K.bookIs(TOWN, "ask far vowel 000;", -1, 0);
        K.bookFault(TOWN, "ask far dog 013;", 2, 12);
        K.bookFault(TOWN, "ask far dog 999;", 2, 12);
        K.bookFault(TOWN, "ask far dog 0012;", 1, 12);
        for (int n = 1; n <= 12; n++) {
            BridgeToll x = Kit.on(TOWN);
            Kit.book(x, "ask far dog " + n + ";", 1);
            K.is("it is asked", x.asks(1, 3), n);
        }
    }

    /** N: 1 to 60. */
    private static void numbersOfDays() {
        for (int n : new int[] {0, 1, 2, 9, 10, 59, 60, 61, 62, 100, 400, 999}) {
            boolean isRight = n >= 1 && n <= 60;
            K.bookIs(TOWN, "day " + n + ";", isRight ? -1 : -2 - 4, isRight ? 0 : 2);
            BridgeToll x = Kit.on(TOWN);
            Kit.book(x, "day " + n + ";", 1);
            K.is("the DAY", x.now(0), isRight ? n : 0);
        }
        K.bookIs(TOWN, "day 060;", -1, 0);
        K.bookFault(TOWN, "day 061;", 2, 4);
        K.bookFault(TOWN, "day 000;", 2, 4);
    }

    /** 40 at most; a 41st LINE is a FAULT at its first WORD. */
    private static void fortyLines() {
        for (int n = 38; n <= 43; n++) {
            String text = Kit.times("day 1;", n);
            K.bookIs(TOWN, text, n <= 40 ? -1 : -2 - 240, n <= 40 ? 0 : 4);
            BridgeToll x = Kit.on(TOWN);
            Kit.book(x, text, 1);
            K.is("LINES", x.told(1), n <= 40 ? n : -1);
            K.is("the DAY", x.now(0), n <= 40 ? n : 0);
        }
        String forty = Kit.times("day 1;", 40);
        for (String first : new String[] {"day", "ask", "ann", "dot"}) {
            K.bookFault(TOWN, forty + first, 4, 240);
            K.bookFault(TOWN, forty + " \n" + first + " !", 4, 242);
        }
        K.bookIs(TOWN, forty + " \n ", -1, 0);
        K.bookFault(TOWN, Kit.times("day 1;", 39) + "day 0;day 1;", 2, 39 * 6 + 4);
        K.bookFault(TOWN, forty + ";", 1, 240);
        // All LINES are judged, the 40th too.
        K.bookIs(TOWN, Kit.times("day 1;", 39) + "cid parts;", 39, 0);
    }

    private static void noLine() {
        for (String text : new String[] {"", " ", "\n\n"}) {
            for (int lives = 0; lives < 2; lives++) {
                BridgeToll x = Kit.on(TOWN);
                x.days(4);
                K.is("no LINE is WRONG", Kit.book(x, text, lives), -1);
                int[] due = {0, 0, 4, x.now(4)};
                for (int what = 0; what < 4; what++) {
                    K.is("told(" + what + ")", x.told(what), due[what]);
                }
            }
        }
        K.bookFault(TOWN, ";", 1, 0);
        K.bookFault(TOWN, "day 1", 1, 5);
    }

    /** Another lives: -1000, and the tape stays. */
    private static void whichLives() {
        for (int lives : new int[] {Integer.MIN_VALUE, -1000, -2, -1, 0, 1, 2, 3, Integer.MAX_VALUE}) {
            BridgeToll x = Kit.on(TOWN);
            Kit.write(x, "day 7;");
            boolean isRight = lives == 0 || lives == 1;
            K.is("book(" + lives + ")", x.book(lives), isRight ? -1 : -1000);
            K.is("the tape", x.count(2), isRight ? 0 : 6);
            K.is("the DAY", x.now(0), lives == 1 ? 7 : 0);
            K.is("told", x.told(2), isRight ? 7 : -1);
            K.is("undo", x.undo(), lives == 1 ? 0 : -1);
            if (!isRight) {
                K.is("the same tape is a BOOK", x.book(1), -1);
                K.is("the DAY", x.now(0), 7);
            }
        }
        BridgeToll x = Kit.on(TOWN);
        Kit.write(x, "!");
        K.is("with a FAULT too", x.book(2), -1000);
        K.is("the tape", x.count(2), 1);
    }

    private static void whatIsTold() {
        BridgeToll x = Kit.on(TOWN);
        for (int what : new int[] {Integer.MIN_VALUE, -2, -1, 0, 1, 2, 3, 4, 5, Integer.MAX_VALUE}) {
            K.is("ahead of any", x.told(what), -1);
        }
        Kit.book(x, "day 3;", 0);
        int[] due = {0, 1, 3, 9};
        for (int what : new int[] {Integer.MIN_VALUE, -2, -1, 0, 1, 2, 3, 4, 5, Integer.MAX_VALUE}) {
            K.is("told(" + what + ")", x.told(what), what >= 0 && what < 4 ? due[what] : -1);
        }
    }

    /** In each place of each LINE every other TOKEN, no TOKEN and the end are FAULTS at it. */
    private static void whatCantCome() {
        String[] lines = {"ann goes near ;", "ann joins bob ;", "ann parts ;", "ann trades song bob vowel ;", "ask near song 1 ;",
            "day 1 ;"};
        String[] others = {"!", "x1", "abcdefgh", "1234", ";", "<", "=", ">", "(", ")", ".", "5", "thing", "asks", "near", "bridge",
            "goes", "day", "ann", "song", "zoe", ""};
        for (String line : lines) {
            String[] tokens = line.split(" ");
            String before = "";
            for (int i = 0; i < tokens.length; i++) {
                for (String other : others) {
                    int kind = kindHere(tokens, i, other);
                    if (kind > 0) {
                        K.bookFault(TOWN, before + other, kind, before.length());
                    }
                }
                before += tokens[i] + " ";
            }
        }
    }

    /** The FAULT of a TOKEN in a place of a LINE; 0: it may stand there. */
    private static int kindHere(String[] line, int i, String token) {
        boolean isName = token.equals("ann") || token.equals("song") || token.equals("zoe");
        String here = line[i];
        if (i == 0) {
            return token.isEmpty() || token.equals("day") || token.equals("ann") ? 0 : isName ? 3 : 1;
        }
        if (here.equals("ann") || here.equals("bob")) {
            return token.equals("ann") ? 0 : isName ? 3 : 1;
        }
        if (here.equals("song") || here.equals("vowel")) {
            return token.equals("song") ? 0 : isName ? 3 : 1;
        }
        if (here.equals("near")) {
            return token.equals("near") || token.equals("bridge") && line[1].equals("goes") ? 0 : 1;
        }
        if (here.equals("1")) {
            return token.equals("5") ? 0 : 1;
        }
        if (here.equals(";")) {
            return token.equals(";") ? 0 : 1;
        }
        return token.equals("goes") ? 0 : 1;
    }

    private static void namesOfThisBridge() {
        K.bookFault("", "ann parts;", 3, 0);
        K.bookIs("", "day 1;", -1, 0);
        BridgeToll x = Kit.on(TOWN);
        x.image(0);
        Kit.bridge(x, "person zoe near far;");
        K.is("one of another BRIDGE", Kit.book(x, "ann parts;", 0), -2);
        K.is("its kind", x.fault(), 3);
        K.is("one of this BRIDGE", Kit.book(x, "zoe goes bridge;", 0), -1);
        x.restore(0);
        K.is("one of another BRIDGE", Kit.book(x, "zoe goes bridge;", 0), -2);
        K.is("one of this BRIDGE", Kit.book(x, "ann parts;", 0), -1);
        String full = Kit.things(6) + Kit.persons(8, "near", "far");
        K.bookIs(full, "ph goes bridge;ask far tf 5;pa joins ph;", -1, 0);
        K.bookFault(full, "pi goes bridge;", 3, 0);
        K.bookFault(full, "ask far tg 5;", 3, 8);
    }

    private static void wrong(String text, int line, int why) {
        for (int lives = 0; lives < 2; lives++) {
            BridgeToll x = Kit.on(TOWN);
            K.is("[" + text + "]", Kit.book(x, text, lives), line);
            K.is("why of [" + text + "]", x.told(0), why);
            K.is("no FAULT in [" + text + "]", x.fault(), 0);
        }
    }

    /** Each reason, and what is just right beside it. */
    private static void whyWrong() {
        wrong("cid goes near;", 0, 1);
        wrong("cid goes far;", 0, 1);
        wrong("cid goes bridge;", -1, 0);
        wrong("ann goes bridge;", 0, 1);
        wrong("ann goes far;", 0, 2);
        wrong("day 2;ann goes far;", 1, 2);
        wrong("day 3;ann goes far;", -1, 0);
        wrong("cid joins cid;", 0, 11);
        wrong("ann joins ann;", 0, 11);
        wrong("cid joins ann;", 0, 12);
        wrong("bob joins cid;", 0, 12);
        wrong("cid joins dot;", -1, 0);
        wrong("cid parts;", 0, 21);
        wrong("bob parts;", -1, 0);
        wrong("bob parts;ann parts;", 1, 21);
        wrong("ann trades song ann song;", 0, 31);
        wrong("ann trades cold ann dog;", 0, 31);
        wrong("ann trades song cid song;", 0, 32);
        wrong("ann trades cold cid dog;", 0, 32);
        wrong("ann trades cold bob vowel;", 0, 33);
        wrong("ann trades song bob song;", 0, 33);
        wrong("day 1;ann trades song bob song;", 1, 33);
        wrong("day 2;ann trades song bob song;", -1, 0);
        wrong("ann trades song bob vowel;", -1, 0);
        wrong("ask far vowel 3;", 0, 41);
        wrong("ask far vowel 2;", -1, 0);
        wrong("ask far vowel 4;", -1, 0);
        wrong("ask near dog 0;", 0, 41);
        wrong("ask near dog 1;ask near dog 1;", 1, 41);
    }

    private static void whichLineIsWrong() {
        for (int line = 0; line < 40; line++) {
            String text = Kit.times("day 1;", line) + "cid parts;" + Kit.times("day 1;", 39 - line);
            BridgeToll x = Kit.on(TOWN);
            K.is("the LINE that is WRONG", Kit.book(x, text, 1), line);
            K.is("LINES that are not", x.told(1), line);
            K.is("the DAY then", x.told(2), line);
            K.is("lived as far as that", x.now(0), line);
            K.is("undone whole", x.undo(), line > 0 ? 0 : -1);
            K.is("the DAY", x.now(0), 0);
        }
        // The first one that is WRONG, though there are more.
        wrong("day 1;cid parts;cid joins cid;ann goes far;", 1, 21);
    }

    /** 51: fewer DAYS are left; none of them goes by. */
    private static void fewerDaysAreLeft() {
        for (int day : new int[] {339, 340, 341, 398, 399, 400}) {
            for (int n : new int[] {1, 2, 59, 60}) {
                BridgeToll x = Kit.on(TOWN);
                Kit.live(x, day);
                boolean isLeft = day + n <= 400;
                K.is("day " + n + " on DAY " + day, Kit.book(x, "day " + n + ";", 0), isLeft ? -1 : 0);
                K.is("why", x.told(0), isLeft ? 0 : 51);
                K.is("the DAY then", x.told(2), isLeft ? day + n : day);
                Kit.book(x, "day " + n + ";", 1);
                K.is("the DAY", x.now(0), isLeft ? day + n : day);
            }
        }
        BridgeToll x = Kit.on(TOWN);
        K.is("400 DAYS in one BOOK", Kit.book(x, Kit.times("day 60;", 6) + "day 40;", 1), -1);
        K.is("the DAY", x.now(0), 400);
        K.is("undone whole", x.undo(), 0);
        K.is("401 of them", Kit.book(x, Kit.times("day 60;", 6) + "day 40;day 1;", 1), 7);
        K.is("why", x.told(0), 51);
        K.is("what needs no DAY", Kit.book(x, "cid goes bridge;ann parts;ask far dog 1;", 1), -1);
    }

    /** A BOOK that is lived does as the calls of the face do; one that is judged tells the same and does nothing. */
    private static void asByHand() {
        BridgeToll x = Kit.on(TOWN);
        BridgeToll y = Kit.on(TOWN);
        String text = "day 1;ann trades song bob vowel;ann goes far;bob parts;cid goes bridge;cid joins bob;day 7;ask near cold 0;"
                + "dot goes bridge;dot trades dog cid song;bob goes near;day 60;";
        x.days(1);
        x.trade(0, 0, 1, 2);
        x.go(0, 2);
        x.part(1);
        x.go(2, 1);
        x.join(2, 1);
        x.days(7);
        x.ask(0, 1, 0);
        x.go(3, 1);
        x.trade(3, 3, 2, 0);
        x.go(1, 0);
        x.days(60);
        String before = Kit.seen(y);
        K.is("judged", Kit.book(y, text, 0), -1);
        K.is("all stays as it is", Kit.seen(y).equals(before), true);
        K.is("the DAY then", y.told(2), x.now(0));
        K.is("who could PAY then", y.told(3), x.now(4));
        K.is("nothing to undo", y.undo(), -1);
        K.is("lived", Kit.book(y, text, 1), -1);
        K.is("as by hand", Kit.seen(y).equals(Kit.seen(x)), true);
        K.is("the DAY then", y.told(2), x.now(0));
        K.is("who could PAY then", y.told(3), x.now(4));
    }

    private static void faultsLiveNothing() {
        for (String text : new String[] {"day 1;day 0;", "day 1;!", "day 1;zoe parts;", "day 1;day 1", Kit.times("day 1;", 41)}) {
            BridgeToll x = Kit.on(TOWN);
            x.days(2);
            String before = Kit.seen(x);
            K.is("a FAULT", Kit.book(x, text, 1) <= -2, true);
            K.is("nothing is lived", Kit.seen(x).equals(before), true);
            K.is("nothing is told", x.told(1), -1);
            K.is("nothing more can be undone", x.undo(), 0);
        }
    }

    /** Of the latest book() that had no FAULT and was not -1000. */
    private static void toldOfTheLatest() {
        BridgeToll x = Kit.on(TOWN);
        Kit.book(x, "day 3;cid parts;", 0);
        int[] due = {21, 1, 3, 9};
        for (int i = 0; i < 5; i++) {
            switch (i) {
                case 0 -> Kit.book(x, "day 0;", 1);
                case 1 -> x.book(2);
                case 2 -> x.days(9);
                case 3 -> Kit.bridge(x, "");
                default -> x.restore(0);
            }
            for (int what = 0; what < 4; what++) {
                K.is("told(" + what + ") stays", x.told(what), due[what]);
            }
        }
        Kit.book(x, "", 0);
        K.is("a right one now", x.told(0), 0);
        K.is("no LINES", x.told(1), 0);
        K.is("the DAY", x.told(2), 0);
        K.is("nobody", x.told(3), 0);
    }

    /** Then: behind the LINES that are not WRONG. */
    private static void toldOfThen() {
        BridgeToll x = Kit.on("thing a near 1;person p near far;person q bridge far;person r near near;asks far a 3;");
        int[] who = {4, 4, 4, 5, 5};
        for (int day = 1; day <= 4; day++) {
            Kit.book(x, "day " + day + ";", 0);
            K.is("who could PAY on DAY " + day, x.told(3), who[day]);
            Kit.book(x, "day " + day + ";q parts;day 9;", 0);
            K.is("who could PAY on DAY " + day, x.told(3), who[day]);
            K.is("the DAY", x.told(2), day);
            K.is("nobody could yet", x.now(4), 4);
        }
        Kit.book(x, "ask far a 0;", 0);
        K.is("all could then", x.told(3), 7);
    }
}
