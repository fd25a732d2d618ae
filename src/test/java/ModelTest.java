import java.lang.reflect.InvocationTargetException;
import java.lang.reflect.Method;
import java.lang.reflect.Modifier;
import java.util.ArrayList;
import java.util.Arrays;
import java.util.Comparator;
import java.util.List;
import java.util.Random;

/** All promises at once: runs of at most 512 calls by chance, each answered by the class and by Model. */
public final class ModelTest {
    private static final Kit K = new Kit();
    private static final int RUNS = 700;
    private static final int MOST_CALLS = 512;

    private final Random r;
    private final BridgeToll x = new BridgeToll();
    private final Model m = new Model();
    private final List<String> run = new ArrayList<>();
    private boolean isRight = true;

    private ModelTest(Random r) {
        this.r = r;
    }

    public static void main(String[] args) {
        List<Method> all = new ArrayList<>();
        for (Method f : BridgeToll.class.getDeclaredMethods()) {
            if (Modifier.isPublic(f.getModifiers())) {
                all.add(f);
            }
        }
        // The machine tells them in any order; a run by chance must be the same one each time.
        all.sort(Comparator.comparing(Method::getName));
        for (int i = 0; i < RUNS; i++) {
            new ModelTest(new Random(i)).runCalls(all);
        }
        K.close();
    }

    private void runCalls(List<Method> all) {
        int seldom = 3 + r.nextInt(12);
        while (isRight && run.size() < MOST_CALLS - 60) {
            if (m.count(1) == 0 && r.nextInt(8) > 0) {
                call("end", 0);
                write(RandomTown.text(r, r.nextBoolean()));
                call("bridge");
            } else if (r.nextInt(seldom) == 0) {
                text();
            } else if (r.nextInt(3) == 0) {
                act();
            } else {
                Method f = all.get(r.nextInt(all.size()));
                // Behind one on an empty tape there is nobody any more.
                if (!f.getName().equals("bridge") || r.nextInt(12) == 0) {
                    call(f.getName(), numbers(f));
                }
            }
        }
        for (int k = 0; k < 4 && isRight; k++) {
            call("now", k);
            call("said", k - 1);
            call("told", k);
        }
    }

    private int[] numbers(Method f) {
        int[] n = new int[f.getParameterCount()];
        for (int i = 0; i < n.length; i++) {
            n[i] = r.nextInt(12) == 0 ? oddNumber() : r.nextInt(4) == 0 ? r.nextInt(14) - 1 : r.nextInt(4);
        }
        return n;
    }

    private int oddNumber() {
        int[] edges = {-2, -1, 0, 8, 12, 13, 30, 31, 60, 61, 400, 940, Integer.MAX_VALUE, Integer.MIN_VALUE};
        return r.nextInt(3) == 0 ? r.nextInt() : edges[r.nextInt(edges.length)];
    }

    private int somebody() {
        return r.nextInt(Math.max(1, m.count(1)));
    }

    private int something() {
        return r.nextInt(Math.max(1, m.count(0)));
    }

    /** Mostly one that can be done. */
    private void act() {
        switch (r.nextInt(9)) {
            case 0, 1 -> call("go", somebody(), r.nextInt(3));
            case 2 -> call("join", somebody(), somebody());
            case 3 -> call("part", somebody());
            case 4 -> call("trade", somebody(), something(), somebody(), something());
            case 5 -> call("ask", r.nextInt(2), something(), r.nextInt(5));
            case 6 -> call("days", 1 + r.nextInt(r.nextInt(6) == 0 ? 60 : 5));
            case 7 -> call("drawn", 1 + r.nextInt(r.nextInt(6) == 0 ? 60 : 5), r.nextInt());
            default -> call("undo");
        }
    }

    /** A text of a sort, at times spoilt, at times read as one of another sort. */
    private void text() {
        int sort = r.nextInt(8);
        String text = sort == 0 ? RandomTown.text(r, r.nextBoolean()) : sort < 4 ? bookText()
                : sort < 6 ? sentenceText() : lawText();
        if (r.nextInt(5) == 0) {
            text = spoilt(text);
        }
        if (r.nextInt(10) > 0) {
            call("end", 0);
        }
        write(text);
        int read = r.nextInt(12) == 0 ? r.nextInt(8) : sort;
        if (read == 0) {
            call("bridge");
        } else if (read < 4) {
            call("book", r.nextInt(2));
        } else if (read < 6) {
            call("sentence");
            call("said", -1);
        } else {
            call("laws");
        }
        call("fault");
    }

    private String bookText() {
        String[] places = {"near", "bridge", "far"};
        StringBuilder b = new StringBuilder();
        int lines = r.nextInt(r.nextInt(20) == 0 ? 44 : 7);
        for (int i = 0; i < lines; i++) {
            String p = RandomTown.person(somebody());
            String q = RandomTown.person(somebody());
            String t = RandomTown.thing(something());
            b.append(switch (r.nextInt(6)) {
                case 0 -> p + " goes " + places[r.nextInt(3)];
                case 1 -> p + " joins " + q;
                case 2 -> p + " parts";
                case 3 -> p + " trades " + t + " " + q + " " + RandomTown.thing(something());
                case 4 -> "ask " + places[r.nextInt(2) * 2] + " " + t + " " + r.nextInt(13);
                default -> "day " + (1 + r.nextInt(r.nextInt(4) == 0 ? 61 : 4));
            }).append(r.nextInt(9) == 0 ? " ;\n" : ";");
        }
        return b.toString();
    }

    private String sentenceText() {
        return r.nextInt(20) == 0 ? "not ".repeat(r.nextInt(10)) + "met" : condText(r.nextInt(4));
    }

    private String condText(int deep) {
        StringBuilder b = new StringBuilder(oneText(deep));
        for (int i = r.nextInt(4); i > 0; i--) {
            b.append(r.nextBoolean() ? " and " : " or ").append(oneText(deep));
        }
        return b.toString();
    }

    private String oneText(int deep) {
        String[] plain = {"near", "bridge", "far", "pays near", "pays far", "met", "wants near", "wants far"};
        String[] counted = {"all", "stayed", "crossed", "number"};
        int kind = r.nextInt(deep > 0 ? 5 : 3);
        return switch (kind) {
            case 0, 1 -> plain[r.nextInt(plain.length)];
            case 2 -> counted[r.nextInt(4)] + "<=>".charAt(r.nextInt(3)) + r.nextInt(r.nextInt(3) == 0 ? 40 : 5);
            case 3 -> "not " + oneText(deep - 1);
            default -> "(" + condText(deep - 1) + ")";
        };
    }

    private String lawText() {
        StringBuilder b = new StringBuilder();
        b.append((char) (r.nextInt(20) == 0 ? r.nextInt(256) : 1 + r.nextInt(5)));
        for (int i = r.nextInt(r.nextInt(9) == 0 ? 11 : 4); i > 0; i--) {
            b.append((char) somebody()).append((char) (r.nextInt(30) == 0 ? 2 : r.nextInt(2)));
        }
        return b.toString();
    }

    private String spoilt(String text) {
        String[] bits = {";", " ", "\n", "0", "13", " 61", " 10;", "ta", "pa", "near", "far", "bridge", "(", ")", "<", "A",
            "x1", "not", "day", "thing za near 1;", "meets pa pb;", "\0", "pa parts;"};
        StringBuilder b = new StringBuilder(text);
        for (int i = 1 + r.nextInt(2); i > 0; i--) {
            int from = r.nextInt(b.length() + 1);
            int to = Math.min(b.length(), from + r.nextInt(4));
            b.replace(from, to, r.nextBoolean() ? bits[r.nextInt(bits.length)] : "");
        }
        return b.toString();
    }

    private void write(String text) {
        int before = m.count(2);
        for (int i = 0; i < text.length(); i += 20) {
            int[] n = new int[5];
            for (int j = 0; j < 20; j++) {
                n[j / 4] = n[j / 4] << 8 | (i + j < text.length() ? text.charAt(i + j) & 255 : 0);
            }
            call("feed", n);
        }
        call("end", before + text.length());
    }

    private void call(String name, int... numbers) {
        if (!isRight || run.size() >= MOST_CALLS) {
            return;
        }
        String due = answer(m, name, numbers);
        String got = answer(x, name, numbers);
        run.add(name + Arrays.toString(numbers) + " " + got);
        K.is("a call", 0, 0);
        if (!got.equals(due)) {
            isRight = false;
            K.is(String.join("\n", run) + "\nbut the model says " + due + ": right", false, true);
        }
    }

    private static String answer(Object who, String name, int[] numbers) {
        Class<?>[] types = new Class<?>[numbers.length];
        Object[] given = new Object[numbers.length];
        for (int i = 0; i < numbers.length; i++) {
            types[i] = int.class;
            given[i] = numbers[i];
        }
        try {
            Method f = who.getClass().getDeclaredMethod(name, types);
            return String.valueOf(f.invoke(who, given));
        } catch (InvocationTargetException e) {
            return "throws." + e.getCause().getClass().getSimpleName();
        } catch (ReflectiveOperationException e) {
            throw new IllegalStateException(e);
        }
    }
}
