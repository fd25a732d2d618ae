/** Promises 24 to 26. */
public final class LawTest {
    private static final Kit K = new Kit();

    private static final String FOUR = "thing a near 1;thing b near 1;thing c far 1;"
            + "person p near far;person q near far;person r far far;person s far near;"
            + "has p a 5;has p b 4;has q b 4;has q c 3;has r a 12;has r b 12;has r c 12;";

    public static void main(String[] args) {
        asTold();
        sets();
        latest();
        byBruteForce();
        K.close();
    }

    private static int laws(BridgeToll x, int... bytes) {
        Kit.writeNumbers(x, bytes);
        int n = x.laws();
        K.is("24 the tape is empty then", x.count(2), 0);
        return n;
    }

    private static void asTold() {
        BridgeToll x = Kit.on(FOUR);
        K.is("25 ahead of any", x.smallest(), -1);
        K.is("26 ahead of any", x.offer(), -1);
        K.is("24 empty", laws(x), -1);
        K.is("24 n alone", laws(x, 3), -1);
        K.is("24 half a pair", laws(x, 3, 0), -1);
        K.is("24 half a pair", laws(x, 3, 0, 1, 2), -1);
        K.is("24 n 0", laws(x, 0, 0, 1), -1);
        K.is("24 n 13", laws(x, 13, 0, 1), -1);
        K.is("24 n 255", laws(x, 255, 0, 1), -1);
        K.is("24 no person", laws(x, 3, 4, 1), -1);
        K.is("24 no person", laws(x, 3, 255, 1), -1);
        K.is("24 let by 2", laws(x, 3, 0, 2), -1);
        K.is("24 let by 255", laws(x, 3, 0, 255), -1);
        K.is("24 nine", laws(x, 3, 0, 1, 0, 1, 0, 1, 0, 1, 0, 1, 0, 1, 0, 1, 0, 1, 0, 1), -1);
        K.is("25 still ahead of any", x.smallest(), -1);
        K.is("24 eight", laws(x, 3, 0, 1, 0, 1, 0, 1, 0, 1, 0, 1, 0, 1, 0, 1, 0, 1), 4);
        K.is("24 n 12", laws(x, 12, 2, 1), 8);
        K.is("24 n 1", laws(x, 1, 3, 0), 7);
        K.is("24 no bridge", laws(new BridgeToll(), 1, 0, 1), -1);
    }

    private static void sets() {
        BridgeToll x = Kit.on(FOUR);
        // Of 4: p has a, b; q has b; r has all; s none.
        K.is("24 p by, q not", laws(x, 4, 0, 1, 1, 0), 2);
        K.is("25 a", x.smallest(), 1);
        K.is("26 nobody splits them", x.offer(), 0);
        K.is("24 q not", laws(x, 4, 1, 0), 6);
        K.is("25 a ahead of c", x.smallest(), 1);
        // The sets: a, ab, c, ac, bc, abc: by p two, by q none, by r all.
        K.is("26 p", x.offer(), 0);
        K.is("24 q by and not by", laws(x, 4, 1, 0, 1, 1), 0);
        K.is("25 stays", x.smallest(), 1);
        K.is("26 stays", x.offer(), 0);
        K.is("24 s by: none is asked", laws(x, 4, 3, 1), 1);
        K.is("25 none", x.smallest(), 0);
        K.is("24 r not by", laws(x, 4, 2, 0), 0);
        K.is("25 stays none", x.smallest(), 0);
        K.is("24 p not by", laws(x, 4, 0, 0), 4);
        K.is("25 c", x.smallest(), 4);
    }

    private static void latest() {
        BridgeToll x = Kit.on(FOUR);
        laws(x, 4, 1, 0);
        x.go(0, 1);
        x.days(60);
        Kit.bridge(x, "person z near far;");
        K.is("25 as it was then", x.smallest(), 1);
        K.is("26 as it was then", x.offer(), 0);
        K.is("24 without things", laws(x, 1, 0, 1), 1);
        K.is("25 none", x.smallest(), 0);
        K.is("26 the first", x.offer(), 0);
        K.is("24 without things all go by", laws(x, 1, 0, 0), 0);
    }

    private static void byBruteForce() {
        java.util.Random r = new java.util.Random(7);
        for (int round = 0; round < 400; round++) {
            int things = r.nextInt(7);
            int persons = 1 + r.nextInt(8);
            int[][] has = new int[persons][things];
            BridgeToll x = Kit.on(text(r, has, things, persons));
            int n = 1 + r.nextInt(6);
            int pairs = 1 + r.nextInt(3);
            int[] bytes = new int[1 + 2 * pairs];
            bytes[0] = n;
            for (int i = 1; i < bytes.length; i += 2) {
                bytes[i] = r.nextInt(persons);
                bytes[i + 1] = r.nextInt(2);
            }
            check(x, has, things, bytes);
        }
    }

    private static String text(java.util.Random r, int[][] has, int things, int persons) {
        StringBuilder b = new StringBuilder();
        for (int t = 0; t < things; t++) {
            b.append("thing t").append((char) ('a' + t)).append(" near 1;");
        }
        for (int p = 0; p < persons; p++) {
            b.append("person p").append((char) ('a' + p)).append(" near far;");
        }
        for (int p = 0; p < persons; p++) {
            for (int t = 0; t < things; t++) {
                if (b.length() < 880 && r.nextInt(3) > 0) {
                    has[p][t] = 1 + r.nextInt(6);
                    b.append("has p").append((char) ('a' + p)).append(" t").append((char) ('a' + t)).append(' ');
                    b.append(has[p][t]).append(';');
                }
            }
        }
        return b.toString();
    }

    private static boolean lets(int set, int[] has, int n) {
        for (int t = 0; t < has.length; t++) {
            if ((set >> t & 1) == 1 && has[t] < n) {
                return false;
            }
        }
        return true;
    }

    private static void check(BridgeToll x, int[][] has, int things, int[] bytes) {
        java.util.List<Integer> sets = new java.util.ArrayList<>();
        for (int set = 0; set < 1 << things; set++) {
            boolean agrees = true;
            for (int i = 1; i < bytes.length; i += 2) {
                agrees &= lets(set, has[bytes[i]], bytes[0]) == (bytes[i + 1] == 1);
            }
            if (agrees) {
                sets.add(set);
            }
        }
        K.is("24 brute", laws(x, bytes), sets.size());
        if (sets.isEmpty()) {
            K.is("25 brute", x.smallest(), -1);
            K.is("26 brute", x.offer(), -1);
            return;
        }
        int smallest = sets.stream().min(java.util.Comparator.<Integer>comparingInt(Integer::bitCount)
                .thenComparingInt(s -> s)).get();
        K.is("25 brute", x.smallest(), smallest);
        int best = -1;
        long least = Long.MAX_VALUE;
        for (int p = 0; p < has.length; p++) {
            int q = p;
            long by = sets.stream().filter(s -> lets(s, has[q], bytes[0])).count();
            long left = Math.max(by, sets.size() - by);
            if (left < least) {
                least = left;
                best = p;
            }
        }
        K.is("26 brute", x.offer(), best);
    }
}
