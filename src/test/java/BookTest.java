/** Promises 35 and 36, and the FAULTS of a BOOK. */
public final class BookTest {
    private static final Kit K = new Kit();

    public static void main(String[] args) {
        plain();
        wrongLines();
        lastDays();
        faults();
        fortyLines();
        lengths();
        faultsChangeNothing();
        undoneWhole();
        nothingLived();
        K.close();
    }

    private static void told(String what, BridgeToll x, int why, int right, int day, int who) {
        K.is(what + ": why", x.told(0), why);
        K.is(what + ": lines", x.told(1), right);
        K.is(what + ": day", x.told(2), day);
        K.is(what + ": who", x.told(3), who);
    }

    private static void plain() {
        BridgeToll x = Kit.on(Kit.TOWN);
        K.is("36 ahead of any", x.told(0), -1);
        K.is("36 ahead of any", x.told(3), -1);
        Kit.write(x, "day 3;");
        K.is("35 another lives", x.book(2), -1000);
        K.is("35 another lives", x.book(-1), -1000);
        K.is("35 the tape stays", x.count(2), 6);
        K.is("36 ahead of any", x.told(2), -1);
        K.is("35 judged", x.book(0), -1);
        K.is("35 the tape is empty", x.count(2), 0);
        told("36 judged", x, 0, 1, 3, 9);
        K.is("35 all stays", x.now(0), 0);
        K.is("17 nothing to undo", x.undo(), -1);
        K.is("36 another what", x.told(4), -1);
        K.is("36 another what", x.told(-1), -1);
        String before = Kit.seen(x);
        String text = "ann parts;ann trades song bob vowel;ann goes far;ask near cold 0;\nbob goes near; cid goes bridge;"
                + "cid joins bob; day 2;";
        K.is("35 judged", Kit.book(x, text, 0), -1);
        told("36 judged", x, 0, 8, 2, 11);
        K.is("35 all stays", Kit.seen(x).equals(before), true);
        K.is("35 lived", Kit.book(x, text, 1), -1);
        told("36 lived", x, 0, 8, 2, 11);
        K.is("35 day", x.now(0), 2);
        K.is("35 trade", x.have(0, 2), 4 + 2);
        K.is("35 place", x.person(0, 0), 2);
        K.is("35 ask", x.asks(0, 1), 0);
        K.is("35 join", x.person(2, 3), 1);
        K.is("35 empty", Kit.book(x, "", 0), -1);
        told("36 empty", x, 0, 0, 2, 11);
        K.is("17 one act", x.undo(), 0);
        K.is("17 as it was", Kit.seen(x).equals(before), true);
    }

    private static void wrong(String text, int line, int why) {
        BridgeToll x = Kit.on(Kit.TOWN);
        String before = Kit.seen(x);
        K.is("35 [" + text + "]", Kit.book(x, text, 0), line);
        K.is("36 [" + text + "]", x.told(0), why);
        K.is("36 lines [" + text + "]", x.told(1), line);
        K.is("5 [" + text + "]", x.fault(), 0);
        K.is("35 judged alone [" + text + "]", Kit.seen(x).equals(before), true);
        K.is("35 lived [" + text + "]", Kit.book(x, text, 1), line);
        K.is("36 lived [" + text + "]", x.told(0), why);
    }

    private static void wrongLines() {
        wrong("cid goes far;", 0, 1);
        wrong("cid goes near;", 0, 1);
        wrong("day 1;ann goes far;", 1, 2);
        wrong("cid joins cid;", 0, 11);
        wrong("cid joins ann;", 0, 12);
        wrong("ann joins bob;", 0, 12);
        wrong("cid parts;", 0, 21);
        wrong("day 1;day 1;ann trades song ann song;", 2, 31);
        wrong("ann trades song cid song;", 0, 32);
        wrong("ann trades cold bob vowel;", 0, 33);
        wrong("ask far vowel 3;", 0, 41);
        wrong("ask far dog 0;", 0, 41);
        wrong("ask far dog 1;ask far dog 1;day 7;", 1, 41);
        BridgeToll x = Kit.on(Kit.TOWN);
        K.is("35 lived as far as it is not wrong", Kit.book(x, "day 5;cid goes bridge;cid goes far;day 9;", 1), 2);
        told("36", x, 2, 2, 5, 9);
        K.is("35 day", x.now(0), 5);
        K.is("35 place", x.person(2, 0), 1);
        K.is("17 it is one act", x.undo(), 0);
        K.is("17 as it was", x.now(0), 0);
        K.is("17 as it was", x.person(2, 0), 0);
    }

    private static void lastDays() {
        BridgeToll x = Kit.on(Kit.TOWN);
        K.is("35 360 days", Kit.book(x, Kit.times("day 60;", 6), 1), -1);
        K.is("35 just those left", Kit.book(x, "day 40;", 0), -1);
        told("36", x, 0, 1, 400, x.told(3));
        K.is("35 fewer are left", Kit.book(x, "day 1;day 40;", 0), 1);
        told("36", x, 51, 1, 361, x.told(3));
        K.is("35 lived", Kit.book(x, "day 39;day 2;day 1;", 1), 1);
        K.is("35 none of the two days", x.now(0), 399);
        K.is("36 why", x.told(0), 51);
    }

    private static void fault(String text, int kind, int place) {
        for (int lives = 0; lives < 2; lives++) {
            BridgeToll x = Kit.on(Kit.TOWN);
            String before = Kit.seen(x);
            K.is("35 [" + text + "]", Kit.book(x, text, lives), -2 - place);
            K.is("5 [" + text + "]", x.fault(), kind);
            K.is("36 still ahead of any", x.told(0), -1);
            K.is("35 nothing is lived [" + text + "]", Kit.seen(x).equals(before), true);
            K.is("35 the tape is empty", x.count(2), 0);
        }
    }

    private static void faults() {
        fault(";", 1, 0);
        fault("day", 1, 3);
        fault("day 3", 1, 5);
        fault("day ann;", 1, 4);
        fault("day 0;", 2, 4);
        fault("day 61;", 2, 4);
        fault("day 1000;", 1, 4);
        fault("Day 1;", 1, 0);
        fault("7;", 1, 0);
        fault("goes;", 1, 0);
        fault("near;", 1, 0);
        fault("thing;", 1, 0);
        fault("eve parts;", 3, 0);
        fault("song parts;", 3, 0);
        fault("ann;", 1, 3);
        fault("ann", 1, 3);
        fault("ann bob;", 1, 4);
        fault("ann near;", 1, 4);
        fault("ann goes;", 1, 8);
        fault("ann goes ann;", 1, 9);
        fault("ann goes home;", 1, 9);
        fault("ann joins;", 1, 9);
        fault("ann joins song;", 3, 10);
        fault("ann joins eve;", 3, 10);
        fault("ann joins near;", 1, 10);
        fault("ann parts bob;", 1, 10);
        fault("ann trades bob song vowel;", 3, 11);
        fault("ann trades song vowel bob;", 3, 16);
        fault("ann trades song bob bob;", 3, 20);
        fault("ann trades song bob;", 1, 19);
        fault("ann trades song bob ask;", 1, 20);
        fault("ask bridge song 1;", 1, 4);
        fault("ask song near 1;", 1, 4);
        fault("ask near ann 1;", 3, 9);
        fault("ask near eve 1;", 3, 9);
        fault("ask near song 13;", 2, 14);
        fault("ask near song;", 1, 13);
        fault("ask near song 1 day 1;", 1, 16);
        fault("day 1;cid goes far;eve parts;", 3, 19);
        fault("ann = bob;", 1, 4);
        fault("ann goes far.", 1, 12);
        fault("thing x near 1;", 1, 0);
        fault("asks near song 1;", 1, 0);
    }

    private static void fortyLines() {
        String forty = Kit.times("day 1;", 40);
        BridgeToll x = Kit.on(Kit.TOWN);
        K.is("35 40 lines", Kit.book(x, forty, 1), -1);
        told("36 40 lines", x, 0, 40, 40, 9);
        fault(forty + "day 1;", 4, 240);
        fault(forty + " ask", 4, 241);
        fault(forty + "ann", 4, 240);
        fault(forty + "eve", 3, 240);
        fault(forty + "song", 3, 240);
        fault(forty + "goes", 1, 240);
        fault(forty + ";", 1, 240);
        fault(forty + "5", 1, 240);
        fault(forty + "A", 1, 240);
        K.is("35 blanks behind", Kit.book(x, forty + " \n", 0), -1);
    }

    private static void lengths() {
        BridgeToll x = Kit.on(Kit.TOWN);
        K.is("35 400 bytes", Kit.book(x, Kit.times(" ", 394) + "day 1;", 0), -1);
        fault(Kit.times(" ", 395) + "day 1;", 1, 400);
        fault(Kit.times(" ", 401), 1, 400);
        fault("day 1;" + Kit.times(" ", 395), 1, 400);
        fault(Kit.times(" ", 395) + "day 99;", 2, 399);
        fault(Kit.times(" ", 399) + "ann", 1, 400);
        fault(Kit.times(" ", 399) + "eve", 3, 399);
        fault(Kit.times(" ", 400) + "eve", 1, 400);
        fault(Kit.times(" ", 900) + "eve", 1, 400);
    }

    private static void faultsChangeNothing() {
        BridgeToll x = Kit.on(Kit.TOWN);
        Kit.book(x, "day 2;cid joins cid;", 0);
        Kit.book(x, "oops", 1);
        K.is("5 fault", x.fault(), 3);
        told("36 stays", x, 11, 1, 2, 8);
        x.book(7);
        K.is("5 a book of -1000 leaves it", x.fault(), 3);
        Kit.bridge(x, "");
        K.is("5 none", x.fault(), 0);
        told("36 stays", x, 11, 1, 2, 8);
    }

    private static void undoneWhole() {
        BridgeToll x = Kit.on(Kit.TOWN);
        x.days(1);
        Kit.book(x, "day 2;day 3;", 1);
        x.days(1);
        K.is("17", x.undo(), 2);
        K.is("17", x.now(0), 6);
        K.is("17 the book", x.undo(), 1);
        K.is("17", x.now(0), 1);
        K.is("36 stays", x.told(2), 6);
    }

    /** A BOOK without a LINE that is right is nothing that could be undone, and costs no older act. */
    private static void nothingLived() {
        BridgeToll x = new BridgeToll();
        K.is("35 empty", x.book(1), -1);
        K.is("17 no LINE was lived", x.undo(), -1);
        x = Kit.on(Kit.TOWN);
        String before = Kit.seen(x);
        K.is("35 blanks", Kit.book(x, " \n", 1), -1);
        K.is("35 wrong at once", Kit.book(x, "cid goes far;day 1;", 1), 0);
        told("36", x, 1, 0, 0, x.now(4));
        K.is("35 nothing was lived", Kit.seen(x).equals(before), true);
        K.is("17 no LINE was lived", x.undo(), -1);
        for (int i = 0; i < 8; i++) {
            x.days(1);
        }
        Kit.book(x, "", 1);
        Kit.book(x, "cid parts;", 1);
        Kit.book(x, "cid joins", 1);
        for (int i = 7; i >= 0; i--) {
            K.is("17 the eight days are kept", x.undo(), i);
            K.is("17 day", x.now(0), i);
        }
        Kit.book(x, "day 1;cid parts;", 1);
        K.is("17 one LINE was lived", x.undo(), 0);
        K.is("17 as it was", Kit.seen(x).equals(before), true);
    }
}
