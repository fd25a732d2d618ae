/** Promises 1 to 3 and 41. */
public final class TapeTest {
    public static void main(String[] args) {
        Kit k = new Kit();
        newObject(k);
        feeding(k);
        ending(k);
        bytesInOrder(k);
        k.close();
    }

    private static void newObject(Kit k) {
        BridgeToll x = new BridgeToll();
        k.is("1 count(0)", x.count(0), 0);
        k.is("1 count(1)", x.count(1), 0);
        k.is("1 count(2)", x.count(2), 0);
        k.is("41 count(3)", x.count(3), -1);
        k.is("41 count(-1)", x.count(-1), -1);
        k.is("1 fault", x.fault(), 0);
        k.is("1 day", x.now(0), 0);
        k.is("1 undo", x.undo(), -1);
        k.is("1 said", x.said(-1), -1);
        k.is("1 taught", x.taught(), -1);
        k.is("1 schooled", x.schooled(0), -1);
        k.is("1 told", x.told(0), -1);
        k.is("1 restore(0)", x.restore(0), false);
        k.is("1 restore(1)", x.restore(1), false);
        k.is("NONE", BridgeToll.NONE, -1);
    }

    private static void feeding(Kit k) {
        BridgeToll x = new BridgeToll();
        for (int i = 1; i <= 47; i++) {
            k.is("2 feed " + i, x.feed(0, 0, 0, 0, 0), 20 * i);
        }
        k.is("2 feed beyond 940", x.feed(0, 0, 0, 0, 0), -1);
        k.is("2 none came", x.count(2), 940);
        k.is("3 end(939)", x.end(939), true);
        k.is("2 feed of 20 on 939", x.feed(0, 0, 0, 0, 0), -1);
        k.is("3 end(920)", x.end(920), true);
        k.is("2 feed of 20 on 920", x.feed(0, 0, 0, 0, 0), 940);
    }

    private static void ending(Kit k) {
        BridgeToll x = new BridgeToll();
        k.is("3 end(0) on empty", x.end(0), true);
        k.is("3 end(1) on empty", x.end(1), false);
        x.feed(1, 2, 3, 4, 5);
        k.is("3 end(-1)", x.end(-1), false);
        k.is("3 end(21)", x.end(21), false);
        k.is("3 end(MIN)", x.end(Integer.MIN_VALUE), false);
        k.is("3 stays", x.count(2), 20);
        k.is("3 end(20)", x.end(20), true);
        k.is("3 end(7)", x.end(7), true);
        k.is("3 count", x.count(2), 7);
        k.is("2 feed behind", x.feed(1, 2, 3, 4, 5), 27);
    }

    /** A FAULT's place shows which byte stands where. */
    private static void bytesInOrder(Kit k) {
        BridgeToll x = new BridgeToll();
        for (int bad = 0; bad < 20; bad++) {
            int[] n = {0x20202020, 0x20202020, 0x20202020, 0x20202020, 0x20202020};
            n[bad / 4] |= 0xE0 << (24 - 8 * (bad % 4));
            x.feed(n[0], n[1], n[2], n[3], n[4]);
            k.is("2 byte " + bad, x.bridge(), -1 - bad);
        }
        x.feed(0xFF202020, 0x20202020, 0x20202020, 0x20202020, 0x20202020);
        k.is("2 byte 255", x.bridge(), -1);
        k.is("4 the tape is empty then", x.count(2), 0);
    }
}
