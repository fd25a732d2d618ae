import java.util.Random;

/** BRIDGES by chance. */
final class RandomTown {
    private RandomTown() {
    }

    static String thing(int t) {
        return "t" + (char) ('a' + t);
    }

    static String person(int p) {
        return "p" + (char) ('a' + p);
    }

    static String text(Random r, boolean isMostlyOnBridge) {
        String[] ends = {"near", "far"};
        String[] places = {"near", "bridge", "far"};
        int things = r.nextInt(7);
        int persons = 1 + r.nextInt(isMostlyOnBridge ? 6 : 8);
        StringBuilder b = new StringBuilder();
        for (int t = 0; t < things; t++) {
            b.append("thing ").append(thing(t)).append(' ').append(ends[r.nextInt(2)]).append(' ');
            b.append(1 + r.nextInt(9)).append(';');
        }
        for (int p = 0; p < persons; p++) {
            String place = isMostlyOnBridge && r.nextInt(6) > 0 ? "bridge" : places[r.nextInt(3)];
            b.append("person ").append(person(p)).append(' ').append(place).append(' ');
            b.append(ends[r.nextInt(2)]).append(';');
        }
        for (int p = 0; p + 1 < persons; p += 2) {
            if (r.nextInt(2) == 0) {
                b.append("meets ").append(person(p)).append(' ').append(person(p + 1)).append(';');
            }
        }
        for (int e = 0; e < 2; e++) {
            for (int t = 0; t < things; t++) {
                if (r.nextInt(3) == 0) {
                    b.append("asks ").append(ends[e]).append(' ').append(thing(t)).append(' ');
                    b.append(1 + r.nextInt(r.nextInt(4) == 0 ? 12 : 5)).append(';');
                }
            }
        }
        for (int p = 0; p < persons; p++) {
            for (int t = 0; t < things; t++) {
                if (r.nextInt(3) == 0 && b.length() < 885) {
                    b.append("has ").append(person(p)).append(' ').append(thing(t)).append(' ');
                    b.append(1 + r.nextInt(12)).append(';');
                }
            }
        }
        return b.toString();
    }
}
