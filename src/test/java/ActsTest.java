/** Promises 11 to 17. */
public final class ActsTest {
    private static final Kit K = new Kit();

    public static void main(String[] args) {
        going();
        joining();
        trading();
        asking();
        living();
        meeting();
        lastDays();
        undoing();
        refusedActsAreNotKept();
        K.close();
    }

    private static void going() {
        BridgeToll x = Kit.on("thing a near 1;thing b far 1;person p near far;person q far near;"
                + "has p b 2;asks far b 3;asks near a 1;");
        K.is("11 to where he is", x.go(0, 0), 1);
        K.is("11 two on", x.go(0, 2), 1);
        K.is("11 onto the bridge is free", x.go(0, 1), 0);
        K.is("11 where he is", x.go(0, 1), 1);
        K.is("11 no toll far", x.go(0, 2), 2);
        K.is("11 no toll near", x.go(0, 0), 2);
        K.is("11 refused changes nothing", x.person(0, 4), 1);
        x.ask(1, 1, 2);
        x.days(4);
        K.is("11 just the toll", x.go(0, 2), 0);
        K.is("11 stayed 0", x.person(0, 2), 0);
        K.is("11 place", x.person(0, 0), 2);
        K.is("11 went", x.person(0, 4), 2);
        K.is("11 nothing is paid away", x.have(0, 1), 2);
        K.is("11 far to near", x.go(1, 0), 1);
        K.is("11 no place", x.go(0, 3), -1);
        K.is("11 no place", x.go(0, -1), -1);
        K.is("11 no person", x.go(2, 1), -1);
        K.is("11 no person", x.go(-1, 1), -1);
    }

    private static void joining() {
        BridgeToll x = Kit.on("person p near far;person q far near;person r near near;person s near near;meets q r;");
        K.is("12 alike", x.join(0, 0), 1);
        K.is("12 alike, meets", x.join(1, 1), 1);
        K.is("12 the other one meets", x.join(0, 1), 2);
        K.is("12 he meets", x.join(2, 0), 2);
        K.is("12 they meet already", x.join(1, 2), 2);
        K.is("12 none", x.join(0, 4), -1);
        K.is("12 none", x.join(-1, 0), -1);
        K.is("12 done", x.join(3, 0), 0);
        K.is("12 both", x.person(0, 3), 3);
        K.is("12 both", x.person(3, 3), 0);
        K.is("13 parts", x.part(2), 0);
        K.is("13 both", x.person(1, 3), -1);
        K.is("13 both", x.person(2, 3), -1);
        K.is("13 meets nobody", x.part(1), 1);
        K.is("13 none", x.part(4), -1);
        K.is("13 none", x.part(-1), -1);
        K.is("12 in unlike places", x.join(1, 2), 0);
    }

    private static void trading() {
        String things = "thing a near 1;thing b far 1;person p near far;person q near near;person r far near;";
        BridgeToll x = Kit.on(things + "has p a 7;has q b 5;has r b 9;has p b 1;");
        K.is("14 alike", x.trade(0, 0, 0, 1), 1);
        K.is("14 unlike places", x.trade(0, 0, 2, 1), 2);
        K.is("14 too little of his", x.trade(0, 1, 1, 1), 3);
        K.is("14 too little of the other's", x.trade(0, 0, 1, 0), 3);
        K.is("14 none", x.trade(3, 0, 1, 1), -1);
        K.is("14 none", x.trade(0, 2, 1, 1), -1);
        K.is("14 none", x.trade(0, 0, 3, 1), -1);
        K.is("14 none", x.trade(0, 0, 1, 2), -1);
        K.is("14 none", x.trade(0, 0, 1, -1), -1);
        K.is("14 done", x.trade(0, 0, 1, 1), 0);
        haves("14 halves are cut", x, 0, 4, 3);
        haves("14 halves are cut", x, 1, 3, 3);
        BridgeToll y = Kit.on(things + "has p a 12;has q a 10;has q b 12;has p b 11;");
        K.is("14 above 12 is lost", y.trade(0, 0, 1, 1), 0);
        haves("14 above 12 is lost", y, 0, 6, 12);
        haves("14 above 12 is lost", y, 1, 12, 6);
        BridgeToll z = Kit.on(things + "has p a 12;has q a 3;");
        K.is("14 one thing", z.trade(0, 0, 1, 0), 0);
        K.is("14 one thing", z.have(0, 0), 7);
        K.is("14 one thing", z.have(1, 0), 8);
        BridgeToll w = Kit.on(things + "has p a 11;has q a 12;");
        w.trade(0, 0, 1, 0);
        K.is("14 one thing, full", w.have(0, 0), 12);
        K.is("14 one thing, full", w.have(1, 0), 11);
        BridgeToll v = Kit.on(things + "has p a 2;has q b 2;");
        K.is("14 2 is enough", v.trade(1, 1, 0, 0), 0);
        haves("14 2 is enough", v, 0, 1, 1);
        haves("14 2 is enough", v, 1, 1, 1);
    }

    private static void haves(String what, BridgeToll x, int p, int a, int b) {
        K.is(what + ": " + p + " a", x.have(p, 0), a);
        K.is(what + ": " + p + " b", x.have(p, 1), b);
    }

    private static void asking() {
        BridgeToll x = Kit.on("thing a near 1;person p bridge far;asks far a 3;");
        K.is("15 just so", x.ask(1, 0, 3), 1);
        K.is("15 just so", x.ask(0, 0, 0), 1);
        K.is("15 12", x.ask(1, 0, 12), 0);
        K.is("15", x.asks(1, 0), 12);
        K.is("15 0", x.ask(1, 0, 0), 0);
        K.is("15", x.asks(1, 0), 0);
        K.is("15 near", x.ask(0, 0, 5), 0);
        K.is("15 near", x.asks(0, 0), 5);
        K.is("15 far as it was", x.asks(1, 0), 0);
        K.is("15 13", x.ask(1, 0, 13), -1);
        K.is("15 -1", x.ask(1, 0, -1), -1);
        K.is("15 no end", x.ask(2, 0, 1), -1);
        K.is("15 no end", x.ask(-1, 0, 1), -1);
        K.is("15 no thing", x.ask(0, 1, 1), -1);
        K.is("15 no thing", x.ask(0, -1, 1), -1);
    }

    private static void living() {
        BridgeToll x = Kit.on("thing a near 1;thing b near 3;thing c far 2;person p near far;person q far far;"
                + "person r bridge far;has p a 11;");
        K.is("16 0", x.days(0), -1);
        K.is("16 61", x.days(61), -1);
        K.is("16 -1", x.days(-1), -1);
        K.is("16 1", x.days(1), 1);
        K.is("16 a", x.have(0, 0), 12);
        K.is("16 b not yet", x.have(0, 1), 0);
        K.is("16 1", x.days(1), 1);
        K.is("16 12 at most", x.have(0, 0), 12);
        K.is("16 c", x.have(1, 2), 1);
        K.is("16 a far", x.have(1, 0), 0);
        K.is("16 bridge", x.person(2, 5), 0);
        K.is("16 stayed on the bridge", x.person(2, 2), 2);
        x.days(4);
        K.is("16 b on 3 and 6", x.have(0, 1), 2);
        K.is("16 c on 2, 4 and 6", x.have(1, 2), 3);
        K.is("16 c near", x.have(0, 2), 0);
        x.go(1, 1);
        x.ask(1, 2, 1);
        x.go(1, 2);
        x.days(1);
        K.is("16 stayed starts again", x.have(1, 2), 3);
        x.days(1);
        K.is("16 stayed starts again", x.have(1, 2), 4);
        K.is("16 60", x.days(60), 60);
    }

    private static void meeting() {
        BridgeToll x = Kit.on("thing a far 9;thing b far 9;thing c far 9;person p bridge far;person q bridge far;"
                + "person r near far;person s bridge far;has p a 5;has q a 4;has p b 2;has q c 6;has p c 4;"
                + "has r a 9;has s b 1;meets q p;meets s r;");
        x.days(1);
        K.is("16 1 more is too little", x.have(1, 0), 4);
        K.is("16 2 more", x.have(1, 1), 1);
        K.is("16 both ways", x.have(0, 2), 5);
        K.is("16 who teaches keeps", x.have(0, 1), 2);
        K.is("16 unlike places", x.have(3, 0), 0);
        x.days(1);
        K.is("16 then 1 more is left", x.have(1, 1), 1);
        x.go(2, 1);
        x.days(3);
        K.is("16 one a day", x.have(3, 0), 3);
        BridgeToll y = Kit.on("thing a near 1;person p near far;person q near far;has p a 3;has q a 2;meets p q;");
        y.days(1);
        K.is("16 living is ahead of meeting", y.have(1, 0), 3);
        K.is("16 living is ahead of meeting", y.have(0, 0), 4);
        BridgeToll z = Kit.on("thing a near 2;person p near far;person q near far;has p a 3;has q a 1;meets p q;");
        z.days(2);
        K.is("16 by what they have behind living", z.have(1, 0), 3);
    }

    private static void lastDays() {
        BridgeToll x = Kit.on("thing a near 1;person p near far;");
        for (int i = 0; i < 6; i++) {
            x.days(60);
        }
        K.is("16 360", x.now(0), 360);
        K.is("16 fewer are left", x.days(60), 40);
        K.is("16 400", x.now(0), 400);
        K.is("16 all are over", x.days(1), 0);
        K.is("17 0 days are not kept", x.undo(), 6);
        K.is("17 the 40 are undone", x.now(0), 360);
        x.days(40);
        K.is("33 all are over", x.drawn(5, 1), 0);
        K.is("33 not kept", x.undo(), 6);
        x.days(40);
        K.is("11 one may still go", x.go(0, 1), 0);
    }

    private static void undoing() {
        BridgeToll x = Kit.on(Kit.TOWN);
        K.is("17 none", x.undo(), -1);
        String[] was = new String[12];
        int n = 0;
        was[n++] = Kit.seen(x);
        K.is("17 go", x.go(2, 1), 0);
        was[n++] = Kit.seen(x);
        K.is("17 part", x.part(0), 0);
        was[n++] = Kit.seen(x);
        K.is("17 join", x.join(0, 2), 0);
        was[n++] = Kit.seen(x);
        K.is("17 trade", x.trade(0, 0, 1, 2), 0);
        was[n++] = Kit.seen(x);
        K.is("17 ask", x.ask(0, 1, 5), 0);
        was[n++] = Kit.seen(x);
        K.is("17 days", x.days(7), 7);
        was[n++] = Kit.seen(x);
        K.is("17 drawn", x.drawn(3, 5), 3);
        was[n++] = Kit.seen(x);
        K.is("17 book", Kit.book(x, "day 2;ask far dog 7;", 1), -1);
        for (int i = 7; i >= 0; i--) {
            K.is("17 undo " + i, x.undo(), i);
            K.is("17 as it was " + i, Kit.seen(x).equals(was[i]), true);
        }
        K.is("17 none is left", x.undo(), -1);
        for (int i = 0; i < 11; i++) {
            x.days(1);
        }
        for (int i = 7; i >= 0; i--) {
            K.is("17 8 are kept", x.undo(), i);
        }
        K.is("17 no ninth", x.undo(), -1);
        K.is("17 three stay", x.now(0), 3);
    }

    private static void refusedActsAreNotKept() {
        BridgeToll x = Kit.on(Kit.TOWN);
        for (int i = 0; i < 8; i++) {
            x.days(1);
        }
        x.go(0, 0);
        x.join(0, 0);
        x.part(2);
        x.trade(0, 0, 0, 0);
        x.ask(1, 2, 3);
        x.days(0);
        x.drawn(0, 0);
        x.go(9, 9);
        Kit.book(x, "oops", 1);
        Kit.book(x, "day 3;", 0);
        for (int i = 7; i >= 0; i--) {
            K.is("17 refused acts are not kept", x.undo(), i);
            K.is("17 day", x.now(0), i);
        }
    }
}
