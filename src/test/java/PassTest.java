/** Promises 31 and 32. */
public final class PassTest {
    private static final Kit K = new Kit();

    public static void main(String[] args) {
        BridgeToll x = Kit.on(Kit.TOWN);
        K.is("32 ahead of any", x.byteAt(0), -1);
        text(x, 0, "ann lacks vowel 3");
        text(x, 1, "bob lacks song 2");
        text(x, 3, "dot may go");
        K.is("31 no person", x.pass(4), -1);
        K.is("31 no person", x.pass(-1), -1);
        K.is("32 stays behind no person", x.byteAt(0), 'd');
        K.is("32 last", x.byteAt(9), 'o');
        K.is("32 none such", x.byteAt(10), -1);
        K.is("32 none such", x.byteAt(-1), -1);
        K.is("32 none such", x.byteAt(Integer.MAX_VALUE), -1);
        x.image(0);
        Kit.bridge(x, "person zz near near;");
        K.is("32 stays", x.byteAt(0), 'd');
        text(x, 0, "zz may go");
        x.restore(0);
        K.is("32 stays", x.byteAt(1), 'z');
        BridgeToll y = Kit.on("thing abcdefg near 1;thing hijklmn near 1;person zyxwvut near far;"
                + "has zyxwvut abcdefg 4;asks far abcdefg 4;asks far hijklmn 12;");
        text(y, 0, "zyxwvut lacks hijklmn 12");
        y.ask(1, 0, 5);
        text(y, 0, "zyxwvut lacks abcdefg 1");
        y.ask(1, 0, 0);
        y.ask(1, 1, 10);
        text(y, 0, "zyxwvut lacks hijklmn 10");
        y.ask(1, 1, 9);
        text(y, 0, "zyxwvut lacks hijklmn 9");
        y.ask(1, 1, 0);
        text(y, 0, "zyxwvut may go");
        K.close();
    }

    private static void text(BridgeToll x, int p, String due) {
        String got = Kit.passText(x, p);
        K.is("31 [" + got + "] due is [" + due + "]", got.equals(due), true);
        K.is("31 length", x.pass(p), due.length());
        K.is("32 behind", x.byteAt(due.length()), -1);
    }
}
