import java.util.ArrayList;
import java.util.HashMap;
import java.util.HashSet;
import java.util.List;
import java.util.Map;
import java.util.Random;
import java.util.Set;

/** Texts spoilt by chance: FAULTS against a second reader, which is written apart from the class. */
public final class FaultFuzzTest {
    private static final Kit K = new Kit();

    /** The reader's way out at the first FAULT. */
    private static final class Fault extends RuntimeException {
        private static final long serialVersionUID = 1L;
        final int kind;
        final int place;

        Fault(int kind, int place) {
            super(null, null, false, false);
            this.kind = kind;
            this.place = place;
        }
    }

    private record Token(String text, int place) {
    }

    private static final Set<String> RESERVED = Set.of("thing", "person", "has", "asks", "meets", "near", "bridge",
            "far", "goes", "joins", "parts", "trades", "ask", "day", "or", "and", "not", "pays", "met", "wants", "all",
            "stayed", "crossed", "number");

    /** "!" stands for no TOKEN, "" for the end. */
    private static List<Token> tokens(String text, int most) {
        List<Token> list = new ArrayList<>();
        java.util.regex.Matcher m = java.util.regex.Pattern.compile("[a-z0-9]+|[^ \n]").matcher(text);
        int from = 0;
        while (m.find(from)) {
            if (m.start() >= most) {
                break;
            }
            String s = m.group();
            list.add(new Token(s.matches("[a-z]{1,7}|[0-9]{1,3}|[;<=>()]") ? s : "!", m.start()));
            from = m.end();
        }
        list.add(text.length() > most ? new Token("!", most) : new Token("", text.length()));
        return list;
    }

    private final List<Token> list;
    private int at;
    private final Map<String, Integer> names;
    private final Set<String> together = new HashSet<>();
    private final Set<String> meeting = new HashSet<>();
    private int ones;

    private FaultFuzzTest(String text, int most, Map<String, Integer> names) {
        list = tokens(text, most);
        this.names = names;
    }

    private String here() {
        return list.get(at).text();
    }

    private Fault fault(int kind) {
        return new Fault(kind, list.get(at).place());
    }

    private String oneOf(String... words) {
        for (String w : words) {
            if (here().equals(w)) {
                at++;
                return w;
            }
        }
        throw fault(1);
    }

    private void number(int least, int most) {
        if (!here().matches("[0-9]+")) {
            throw fault(1);
        }
        int n = Integer.parseInt(here());
        if (n < least || n > most) {
            throw fault(2);
        }
        at++;
    }

    private void word() {
        if (!here().matches("[a-z]+") || RESERVED.contains(here())) {
            throw fault(1);
        }
    }

    /** sort 0: a THING, 1: a PERSON. */
    private String known(int sort) {
        word();
        if (names.getOrDefault(here(), -1) != sort) {
            throw fault(3);
        }
        return list.get(at++).text();
    }

    private void fresh(int sort) {
        word();
        if (names.containsKey(here())) {
            throw fault(3);
        }
        names.put(list.get(at++).text(), sort);
    }

    private void once(String first, String line) {
        String t = known(0);
        if (!together.add(line + first + " " + t)) {
            at--;
            throw fault(3);
        }
    }

    private long many(int sort) {
        return names.values().stream().filter(s -> s == sort).count();
    }

    private int bridge() {
        int lines = 0;
        while (!here().isEmpty()) {
            String w = oneOf("thing", "person", "has", "asks", "meets");
            if (w.equals("thing") && many(0) == 6 || w.equals("person") && many(1) == 8) {
                at--;
                throw fault(4);
            }
            if (w.equals("thing")) {
                fresh(0);
                oneOf("near", "far");
                number(1, 9);
            } else if (w.equals("person")) {
                fresh(1);
                oneOf("near", "bridge", "far");
                oneOf("near", "far");
            } else if (w.equals("has")) {
                once(known(1), "has ");
                number(1, 12);
            } else if (w.equals("asks")) {
                once(oneOf("near", "far"), "asks ");
                number(1, 12);
            } else {
                for (int i = 0; i < 2; i++) {
                    if (!meeting.add(known(1))) {
                        at--;
                        throw fault(3);
                    }
                }
            }
            oneOf(";");
            lines++;
        }
        return lines;
    }

    private void book() {
        for (int lines = 0; !here().isEmpty(); lines++) {
            String w = here();
            if (w.equals("ask") || w.equals("day")) {
                at++;
            } else {
                known(1);
            }
            if (lines == 40) {
                at--;
                throw fault(4);
            }
            if (w.equals("ask")) {
                oneOf("near", "far");
                known(0);
                number(0, 12);
            } else if (w.equals("day")) {
                number(1, 60);
            } else {
                String deed = oneOf("goes", "joins", "parts", "trades");
                if (deed.equals("goes")) {
                    oneOf("near", "bridge", "far");
                } else if (deed.equals("joins")) {
                    known(1);
                } else if (deed.equals("trades")) {
                    known(0);
                    known(1);
                    known(0);
                }
            }
            oneOf(";");
        }
    }

    private int sentence() {
        cond(1);
        if (!here().isEmpty()) {
            throw fault(1);
        }
        return ones;
    }

    private void cond(int depth) {
        do {
            do {
                one(depth);
            } while (skip("and"));
        } while (skip("or"));
    }

    private boolean skip(String w) {
        boolean is = here().equals(w);
        at += is ? 1 : 0;
        return is;
    }

    private void one(int depth) {
        String w = oneOf("not", "(", "near", "bridge", "far", "pays", "met", "wants", "all", "stayed", "crossed", "number");
        ones++;
        if (ones == 21 || depth == 9) {
            at--;
            throw fault(4);
        }
        if (w.equals("not")) {
            one(depth + 1);
        } else if (w.equals("(")) {
            cond(depth + 1);
            oneOf(")");
        } else if (w.equals("pays") || w.equals("wants")) {
            oneOf("near", "far");
        } else if (w.equals("all") || w.equals("stayed") || w.equals("crossed") || w.equals("number")) {
            oneOf("<", "=", ">");
            number(0, 999);
        }
    }

    // ---- texts ----

    private static final String[] PIECES = {"thing", "person", "has", "asks", "meets", "near", "bridge", "far", "goes",
        "joins", "parts", "trades", "ask", "day", "or", "and", "not", "pays", "met", "wants", "all", "stayed",
        "crossed", "number", ";", "<", "=", ">", "(", ")", ".", "0", "1", "9", "10", "12", "13", "60", "61", "007",
        "999", "1000", "ta", "tb", "pa", "pb", "pc", "zz", "abcdefg", "abcdefgh", "a1", "1a", "A", "\t"};

    private static String spoil(Random r, String text, int most) {
        List<String> parts = new ArrayList<>();
        java.util.regex.Matcher m = java.util.regex.Pattern.compile("[a-z0-9]+|[^a-z0-9]").matcher(text);
        while (m.find()) {
            parts.add(m.group());
        }
        for (int n = r.nextInt(3); n > 0 && !parts.isEmpty(); n--) {
            int i = r.nextInt(parts.size());
            switch (r.nextInt(5)) {
                case 0 -> parts.remove(i);
                case 1 -> parts.set(i, PIECES[r.nextInt(PIECES.length)]);
                case 2 -> parts.add(i, PIECES[r.nextInt(PIECES.length)]);
                case 3 -> parts.add(i, parts.get(r.nextInt(parts.size())));
                default -> parts.add(i, " ".repeat(r.nextInt(most)));
            }
        }
        String s = String.join("", parts);
        return s.length() > 940 ? s.substring(0, 940) : s;
    }

    private static String bookText(Random r) {
        StringBuilder b = new StringBuilder();
        int lines = r.nextInt(8) == 0 ? 38 + r.nextInt(6) : r.nextInt(12);
        for (int i = 0; i < lines; i++) {
            String p = RandomTown.person(r.nextInt(3));
            String t = RandomTown.thing(r.nextInt(2));
            String[] deeds = {" goes near;", " goes bridge;", " joins " + RandomTown.person(r.nextInt(3)) + ";", " parts;",
                " trades " + t + " " + RandomTown.person(r.nextInt(3)) + " ta;"};
            int kind = lines > 30 ? 2 : r.nextInt(3);
            b.append(kind == 0 ? p + deeds[r.nextInt(deeds.length)]
                    : kind == 1 ? "ask far " + t + " " + r.nextInt(13) + ";" : "day " + (1 + r.nextInt(9)) + ";");
        }
        return b.toString();
    }

    private static String condText(Random r, int depth) {
        String[] plain = {"near", "bridge", "far", "pays near", "pays far", "met", "wants near", "all < 5", "stayed = 0",
            "crossed > 1", "number=2"};
        StringBuilder b = new StringBuilder();
        int n = 1 + r.nextInt(3);
        for (int i = 0; i < n; i++) {
            b.append(i == 0 ? "" : r.nextBoolean() ? " or " : " and ");
            int kind = depth > 9 ? 3 : r.nextInt(6);
            b.append(kind == 0 ? "(" + condText(r, depth + 1) + ")" : kind == 1 ? "not " + condText(r, depth + 1)
                    : plain[r.nextInt(plain.length)]);
        }
        return b.toString();
    }

    private static Map<String, Integer> namesOf(String... persons) {
        Map<String, Integer> names = new HashMap<>();
        names.put("ta", 0);
        names.put("tb", 0);
        for (String p : persons) {
            names.put(p, 1);
        }
        return names;
    }

    public static void main(String[] args) {
        Random r = new Random(41);
        int[] kinds = new int[5];
        for (int round = 0; round < 20000; round++) {
            BridgeToll x = new BridgeToll();
            String text = spoil(r, RandomTown.text(r, false), 900);
            int due;
            int kind = 0;
            try {
                due = new FaultFuzzTest(text, 900, new HashMap<>()).bridge();
            } catch (Fault f) {
                due = -1 - f.place;
                kind = f.kind;
            }
            K.is("4 [" + text + "]", Kit.bridge(x, text), due);
            K.is("5 [" + text + "]", x.fault(), kind);
            kinds[kind]++;
        }
        BridgeToll x = Kit.on("thing ta near 1;thing tb far 2;person pa near far;person pb bridge far;person pc far far;");
        for (int round = 0; round < 20000; round++) {
            String text = spoil(r, bookText(r), 400);
            int due = 0;
            int kind = 0;
            try {
                new FaultFuzzTest(text, 400, namesOf("pa", "pb", "pc")).book();
            } catch (Fault f) {
                due = -2 - f.place;
                kind = f.kind;
            }
            int got = Kit.book(x, text, 0);
            K.is("35 [" + text + "]", kind == 0 ? Math.min(0, got + 1) : got, due);
            K.is("5 [" + text + "]", x.fault(), kind);
            kinds[kind]++;
        }
        for (int round = 0; round < 20000; round++) {
            String text = spoil(r, condText(r, 1), 200);
            int due;
            int kind = 0;
            try {
                due = new FaultFuzzTest(text, 200, namesOf()).sentence();
            } catch (Fault f) {
                due = -1 - f.place;
                kind = f.kind;
            }
            K.is("37 [" + text + "]", Kit.sentence(x, text), due);
            K.is("5 [" + text + "]", x.fault(), kind);
            kinds[kind]++;
        }
        System.out.println("faults by kind: " + java.util.Arrays.toString(kinds));
        for (int kind = 0; kind < 5; kind++) {
            K.is("the texts have every kind", kinds[kind] > 50, true);
        }
        K.close();
    }
}
