import java.util.ArrayDeque;
import java.util.ArrayList;
import java.util.Arrays;
import java.util.Deque;
import java.util.List;
import java.util.NoSuchElementException;
import java.util.Set;
import java.util.function.BiPredicate;
import java.util.function.ToIntFunction;

/**
 * The class once more, with the whole library, as near to the document's sentences as can be and without a thought for
 * speed: each forecast lives the whole BRIDGE on. ModelTest compares the two call by call.
 */
final class Model {
    private static final Set<String> TAKEN = Set.of("thing", "near", "far", "person", "bridge", "has", "asks", "meets",
            "goes", "joins", "parts", "trades", "ask", "day", "or", "and", "not", "pays", "met", "wants", "all", "stayed",
            "crossed", "number");

    private static final class Thing {
        String name;
        int end;
        int days;
    }

    private static final class Person {
        String name;
        int place;
        int wants;
        int stayed;
        int gone;
        int mate = -1;
        int[] has = new int[6];

        Person copy() {
            Person c = new Person();
            c.name = name;
            c.place = place;
            c.wants = wants;
            c.stayed = stayed;
            c.gone = gone;
            c.mate = mate;
            c.has = has.clone();
            return c;
        }

        int all() {
            int sum = 0;
            for (int n : has) {
                sum += n;
            }
            return sum;
        }
    }

    /** BRIDGE and all that is so. THINGS never change behind their LINE, so copies share them. */
    private static final class State {
        List<Thing> things = new ArrayList<>();
        List<Person> persons = new ArrayList<>();
        int[][] asks = new int[2][6];
        int day;

        State copy() {
            State c = new State();
            c.things = new ArrayList<>(things);
            for (Person p : persons) {
                c.persons.add(p.copy());
            }
            c.asks = new int[][] {asks[0].clone(), asks[1].clone()};
            c.day = day;
            return c;
        }

        int thingNamed(String name) {
            for (int t = 0; t < things.size(); t++) {
                if (things.get(t).name.equals(name)) {
                    return t;
                }
            }
            return -1;
        }

        int personNamed(String name) {
            for (int p = 0; p < persons.size(); p++) {
                if (persons.get(p).name.equals(name)) {
                    return p;
                }
            }
            return -1;
        }

        boolean couldPay(Person p, int end) {
            for (int t = 0; t < things.size(); t++) {
                if (p.has[t] < asks[end][t]) {
                    return false;
                }
            }
            return true;
        }

        boolean couldPayWhatHeWants(Person p) {
            return couldPay(p, p.wants);
        }

        int payers() {
            int bits = 0;
            for (int p = 0; p < persons.size(); p++) {
                bits |= couldPayWhatHeWants(persons.get(p)) ? 1 << p : 0;
            }
            return bits;
        }

        int go(int who, int place) {
            Person p = persons.get(who);
            boolean isNext = p.place == 0 && place == 1 || p.place == 1 && place != 1 || p.place == 2 && place == 1;
            if (!isNext) {
                return 1;
            }
            if (p.place == 1 && !couldPay(p, place == 0 ? 0 : 1)) {
                return 2;
            }
            p.place = place;
            p.stayed = 0;
            p.gone++;
            return 0;
        }

        int join(int p, int q) {
            if (p == q) {
                return 1;
            }
            if (persons.get(p).mate != -1 || persons.get(q).mate != -1) {
                return 2;
            }
            persons.get(p).mate = q;
            persons.get(q).mate = p;
            return 0;
        }

        int part(int p) {
            int q = persons.get(p).mate;
            if (q == -1) {
                return 1;
            }
            persons.get(p).mate = -1;
            persons.get(q).mate = -1;
            return 0;
        }

        int trade(int who, int t, int whom, int u) {
            Person p = persons.get(who);
            Person q = persons.get(whom);
            if (p == q) {
                return 1;
            }
            if (p.place != q.place) {
                return 2;
            }
            if (p.has[t] < 2 || q.has[u] < 2) {
                return 3;
            }
            int fromP = p.has[t] / 2;
            int fromQ = q.has[u] / 2;
            p.has[t] -= fromP;
            q.has[t] += fromP;
            q.has[u] -= fromQ;
            p.has[u] += fromQ;
            for (int i = 0; i < 6; i++) {
                p.has[i] = Math.min(p.has[i], 12);
                q.has[i] = Math.min(q.has[i], 12);
            }
            return 0;
        }

        int ask(int e, int t, int n) {
            if (asks[e][t] == n) {
                return 1;
            }
            asks[e][t] = n;
            return 0;
        }

        /** Whether there was one. */
        boolean goesADay() {
            if (day >= 400) {
                return false;
            }
            for (Person p : persons) {
                p.stayed++;
                for (int t = 0; t < things.size(); t++) {
                    Thing thing = things.get(t);
                    boolean isOfHere = p.place == 0 && thing.end == 0 || p.place == 2 && thing.end == 1;
                    if (isOfHere && p.stayed % thing.days == 0 && p.has[t] < 12) {
                        p.has[t]++;
                    }
                }
            }
            for (int i = 0; i < persons.size(); i++) {
                Person p = persons.get(i);
                if (p.mate > i && persons.get(p.mate).place == p.place) {
                    meet(p, persons.get(p.mate));
                }
            }
            day++;
            return true;
        }

        private void meet(Person p, Person q) {
            for (int t = 0; t < things.size(); t++) {
                if (p.has[t] >= q.has[t] + 2) {
                    q.has[t]++;
                } else if (q.has[t] >= p.has[t] + 2) {
                    p.has[t]++;
                }
            }
        }

        int days(int n) {
            int went = 0;
            while (went < n && goesADay()) {
                went++;
            }
            return went;
        }

        int on(int place) {
            int bits = 0;
            for (int p = 0; p < persons.size(); p++) {
                bits |= persons.get(p).place == place ? 1 << p : 0;
            }
            return bits;
        }

        /** A PLACE towards the END (by 1) or away from it (by -1), if there is one and he can. */
        void goesBy(int who, int by) {
            Person p = persons.get(who);
            int place = p.place + (p.wants == 1 ? by : -by);
            if (place >= 0 && place <= 2) {
                go(who, place);
            }
        }

        boolean isWhereHeWants(Person p) {
            return p.place == (p.wants == 0 ? 0 : 2);
        }

        int drawn(int n, int seed) {
            int x = seed;
            int went = 0;
            while (went < n && day < 400) {
                for (int p = 0; p < persons.size(); p++) {
                    x = x * 1103515245 + 12345;
                    switch ((x >>> 8) % 5) {
                        case 0 -> goesBy(p, 1);
                        case 1 -> goesBy(p, -1);
                        case 2 -> {
                            x = x * 1103515245 + 12345;
                            join(p, (x >>> 8) % persons.size());
                        }
                        case 3 -> part(p);
                        default -> { }
                    }
                }
                goesADay();
                went++;
            }
            return went;
        }
    }

    private static final class Fault extends Exception {
        private static final long serialVersionUID = 1;
        final int kind;
        final int place;

        Fault(int kind, Token at) {
            this.kind = kind;
            this.place = at.place;
        }
    }

    /** Sorts: w a WORD, n a NUMBER, s a sign, e the end, ? no TOKEN. */
    private record Token(char sort, String text, int place) {
        boolean is(String s) {
            return (sort == 'w' || sort == 's') && text.equals(s);
        }

        boolean isName() {
            return sort == 'w' && !TAKEN.contains(text);
        }
    }

    /** Looks at the TOKENS of a text of at most so many bytes. */
    private static final class Reader {
        final String text;
        final int most;
        int behind;

        Reader(String text, int most) {
            this.text = text;
            this.most = most;
        }

        Token peek() {
            int i = behind;
            while (i < text.length() && (text.charAt(i) == 32 || text.charAt(i) == 10)) {
                i++;
            }
            if (text.length() > most && i >= most) {
                return new Token('?', "", most);
            }
            if (i >= text.length()) {
                return new Token('e', "", text.length());
            }
            int j = i;
            while (j < text.length() && String.valueOf(text.charAt(j)).matches("[a-z0-9]")) {
                j++;
            }
            String run = text.substring(i, j == i ? i + 1 : j);
            char sort = run.matches("[a-z]{1,7}") ? 'w' : run.matches("[0-9]{1,3}") ? 'n'
                    : run.matches("[;<=>()]") ? 's' : '?';
            return new Token(sort, run, i);
        }

        Token take() {
            Token t = peek();
            behind = t.place + t.text.length();
            return t;
        }

        void take(String sign) throws Fault {
            Token t = take();
            if (!t.is(sign)) {
                throw new Fault(1, t);
            }
        }

        int number(int least, int most) throws Fault {
            Token t = take();
            if (t.sort != 'n') {
                throw new Fault(1, t);
            }
            int n = Integer.parseInt(t.text);
            if (n < least || n > most) {
                throw new Fault(2, t);
            }
            return n;
        }

        int oneOf(String... words) throws Fault {
            Token t = take();
            for (int i = 0; i < words.length; i++) {
                if (t.is(words[i])) {
                    return i;
                }
            }
            throw new Fault(1, t);
        }

        int end() throws Fault {
            return oneOf("near", "far");
        }

        int place() throws Fault {
            return oneOf("near", "bridge", "far");
        }

        Token name() throws Fault {
            Token t = take();
            if (!t.isName()) {
                throw new Fault(1, t);
            }
            return t;
        }

        int person(State s) throws Fault {
            Token t = name();
            if (s.personNamed(t.text) < 0) {
                throw new Fault(3, t);
            }
            return s.personNamed(t.text);
        }

        int thing(State s) throws Fault {
            Token t = name();
            if (s.thingNamed(t.text) < 0) {
                throw new Fault(3, t);
            }
            return s.thingNamed(t.text);
        }

        String newName(State s) throws Fault {
            Token t = name();
            if (s.personNamed(t.text) >= 0 || s.thingNamed(t.text) >= 0) {
                throw new Fault(3, t);
            }
            return t.text;
        }
    }

    private record Image(State state, BiPredicate<State, Integer> sentence) {
    }

    private State now = new State();
    private final Deque<State> past = new ArrayDeque<>();
    private BiPredicate<State, Integer> sentence;
    private final Image[] images = new Image[2];
    private StringBuilder tape = new StringBuilder();
    private int fault;
    private int taught = -1;
    private int[] schooled = new int[0];
    private int smallest = -1;
    private int offer = -1;
    private int crowd = -1;
    private String pass = "";
    private int[] told;

    int feed(int a, int b, int c, int d, int e) {
        if (tape.length() + 20 > 940) {
            return -1;
        }
        for (int n : new int[] {a, b, c, d, e}) {
            tape.append((char) (n >> 24 & 255)).append((char) (n >> 16 & 255)).append((char) (n >> 8 & 255));
            tape.append((char) (n & 255));
        }
        return tape.length();
    }

    boolean end(int n) {
        if (n < 0 || n > tape.length()) {
            return false;
        }
        tape.setLength(n);
        return true;
    }

    private String emptied() {
        String text = tape.toString();
        tape = new StringBuilder();
        return text;
    }

    int bridge() {
        State s = new State();
        int lines = 0;
        try {
            Reader r = new Reader(emptied(), 900);
            while (r.peek().sort != 'e') {
                bridgeLine(r, s);
                r.take(";");
                lines++;
            }
        } catch (Fault f) {
            fault = f.kind;
            return -1 - f.place;
        }
        fault = 0;
        now = s;
        sentence = null;
        past.clear();
        return lines;
    }

    private static void bridgeLine(Reader r, State s) throws Fault {
        Token first = r.take();
        switch (first.sort == 'w' ? first.text : "") {
            case "thing" -> {
                if (s.things.size() == 6) {
                    throw new Fault(4, first);
                }
                Thing t = new Thing();
                t.name = r.newName(s);
                t.end = r.end();
                t.days = r.number(1, 9);
                s.things.add(t);
            }
            case "person" -> {
                if (s.persons.size() == 8) {
                    throw new Fault(4, first);
                }
                Person p = new Person();
                p.name = r.newName(s);
                p.place = r.place();
                p.wants = r.end();
                s.persons.add(p);
            }
            case "has" -> {
                Person p = s.persons.get(r.person(s));
                Token second = r.peek();
                int t = r.thing(s);
                if (p.has[t] > 0) {
                    throw new Fault(3, second);
                }
                p.has[t] = r.number(1, 12);
            }
            case "asks" -> {
                int e = r.end();
                Token second = r.peek();
                int t = r.thing(s);
                if (s.asks[e][t] > 0) {
                    throw new Fault(3, second);
                }
                s.asks[e][t] = r.number(1, 12);
            }
            case "meets" -> {
                Token one = r.peek();
                int p = r.person(s);
                if (s.persons.get(p).mate != -1) {
                    throw new Fault(3, one);
                }
                Token other = r.peek();
                int q = r.person(s);
                if (s.persons.get(q).mate != -1 || p == q) {
                    throw new Fault(3, other);
                }
                s.join(p, q);
            }
            default -> throw new Fault(1, first);
        }
    }

    int fault() {
        return fault;
    }

    private boolean isPerson(int p) {
        return 0 <= p && p < now.persons.size();
    }

    private boolean isThing(int t) {
        return 0 <= t && t < now.things.size();
    }

    private static boolean isEnd(int e) {
        return e == 0 || e == 1;
    }

    int person(int p, int what) {
        if (!isPerson(p)) {
            throw new NoSuchElementException();
        }
        Person him = now.persons.get(p);
        return switch (what) {
            case 0 -> him.place;
            case 1 -> him.wants;
            case 2 -> him.stayed;
            case 3 -> him.mate;
            case 4 -> him.gone;
            case 5 -> him.all();
            default -> throw new NoSuchElementException();
        };
    }

    int have(int p, int t) {
        return isPerson(p) && isThing(t) ? now.persons.get(p).has[t] : -1;
    }

    int thing(int t, int what) {
        if (!isThing(t)) {
            return -1;
        }
        return switch (what) {
            case 0 -> now.things.get(t).end;
            case 1 -> now.things.get(t).days;
            case 2 -> now.persons.stream().mapToInt(p -> p.has[t]).sum();
            default -> -1;
        };
    }

    int asks(int e, int t) {
        return isEnd(e) && isThing(t) ? now.asks[e][t] : -1;
    }

    int now(int what) {
        return switch (what) {
            case 0 -> now.day;
            case 1, 2, 3 -> now.on(what - 1);
            case 4 -> now.payers();
            case 5 -> now.persons.stream().mapToInt(p -> p.gone).sum();
            case 6 -> now.persons.stream().mapToInt(Person::all).sum();
            default -> -1;
        };
    }

    /** Does it, and keeps how it was ahead of it if the answer is one of a thing done. */
    private int act(ToIntFunction<State> deed, boolean isCount) {
        State before = now.copy();
        int answer = deed.applyAsInt(now);
        if (isCount ? answer > 0 : answer == 0) {
            keep(before);
        }
        return answer;
    }

    private void keep(State before) {
        past.addLast(before);
        if (past.size() > 8) {
            past.removeFirst();
        }
    }

    int go(int p, int place) {
        return isPerson(p) && place >= 0 && place <= 2 ? act(s -> s.go(p, place), false) : -1;
    }

    int join(int p, int q) {
        return isPerson(p) && isPerson(q) ? act(s -> s.join(p, q), false) : -1;
    }

    int part(int p) {
        return isPerson(p) ? act(s -> s.part(p), false) : -1;
    }

    int trade(int p, int t, int q, int u) {
        return isPerson(p) && isThing(t) && isPerson(q) && isThing(u) ? act(s -> s.trade(p, t, q, u), false) : -1;
    }

    int ask(int e, int t, int n) {
        return isEnd(e) && isThing(t) && n >= 0 && n <= 12 ? act(s -> s.ask(e, t, n), false) : -1;
    }

    int days(int n) {
        return n >= 1 && n <= 60 ? act(s -> s.days(n), true) : -1;
    }

    int drawn(int n, int seed) {
        return n >= 1 && n <= 60 && !now.persons.isEmpty() ? act(s -> s.drawn(n, seed), true) : -1;
    }

    int undo() {
        if (past.isEmpty()) {
            return -1;
        }
        now = past.removeLast();
        return past.size();
    }

    int lacks(int p, int e) {
        if (!isPerson(p) || !isEnd(e)) {
            return -1;
        }
        int bits = 0;
        for (int t = 0; t < now.things.size(); t++) {
            bits |= now.asks[e][t] > now.persons.get(p).has[t] ? 1 << t : 0;
        }
        return bits;
    }

    private static int daysTill(State s, int most, BiPredicate<State, Integer> isSo, int who) {
        for (int d = 0; d <= most; d++) {
            if (isSo.test(s, who)) {
                return d;
            }
            if (!s.goesADay()) {
                return -1;
            }
        }
        return -1;
    }

    int when(int p, int e) {
        if (!isPerson(p) || !isEnd(e)) {
            return -1;
        }
        return daysTill(now.copy(), 100, (s, who) -> s.couldPay(s.persons.get(who), e), p);
    }

    int teacher(int p) {
        if (!isPerson(p)) {
            return -1;
        }
        int soonest = Integer.MAX_VALUE;
        int who = -1;
        for (int q = -1; q < now.persons.size(); q++) {
            if (q == p) {
                continue;
            }
            State s = now.copy();
            s.part(p);
            if (q >= 0) {
                s.part(q);
                s.join(p, q);
            }
            int d = daysTill(s, 100, (then, he) -> then.couldPayWhatHeWants(then.persons.get(he)), p);
            if (d >= 0 && d < soonest) {
                soonest = d;
                who = q;
            }
        }
        if (soonest == Integer.MAX_VALUE) {
            return -1;
        }
        taught = who;
        return soonest;
    }

    int taught() {
        return taught;
    }

    private int bestSchool;
    private int[] bestMates;

    int school() {
        bestSchool = Integer.MAX_VALUE;
        int[] mates = new int[now.persons.size()];
        Arrays.fill(mates, -1);
        trySchools(0, mates);
        if (bestSchool == Integer.MAX_VALUE) {
            return -1;
        }
        schooled = bestMates;
        return bestSchool;
    }

    /** In the order of like ones: the least other one ahead, none behind all. */
    private void trySchools(int p, int[] mates) {
        if (p == mates.length) {
            trySchool(mates);
            return;
        }
        boolean isFree = now.persons.get(p).place == 1 && mates[p] == -1;
        if (isFree) {
            for (int q = p + 1; q < mates.length; q++) {
                if (now.persons.get(q).place == 1 && mates[q] == -1) {
                    mates[p] = q;
                    mates[q] = p;
                    trySchools(p + 1, mates);
                    mates[p] = -1;
                    mates[q] = -1;
                }
            }
        }
        trySchools(p + 1, mates);
    }

    private void trySchool(int[] mates) {
        State s = now.copy();
        for (int p = 0; p < mates.length; p++) {
            s.persons.get(p).mate = mates[p];
        }
        int d = daysTill(s, 60, (then, x) -> (then.on(1) & ~then.payers()) == 0, 0);
        if (d >= 0 && d < bestSchool) {
            bestSchool = d;
            bestMates = mates.clone();
        }
    }

    int schooled(int p) {
        return p >= 0 && p < schooled.length ? schooled[p] : -1;
    }

    int laws() {
        String t = emptied();
        int pairs = (t.length() - 1) / 2;
        if (t.length() != 1 + 2 * pairs || pairs < 1 || pairs > 8 || t.charAt(0) < 1 || t.charAt(0) > 12) {
            return -1;
        }
        int n = t.charAt(0);
        List<Integer> sets = new ArrayList<>();
        for (int set = 0; set < 1 << now.things.size(); set++) {
            boolean isOne = true;
            for (int i = 1; i < t.length(); i += 2) {
                int p = t.charAt(i);
                if (!isPerson(p) || t.charAt(i + 1) > 1) {
                    return -1;
                }
                isOne &= letsBy(set, p, n) == (t.charAt(i + 1) == 1);
            }
            if (isOne) {
                sets.add(set);
            }
        }
        if (!sets.isEmpty()) {
            smallest = sets.stream().min((a, b) -> Integer.bitCount(a) != Integer.bitCount(b)
                    ? Integer.bitCount(a) - Integer.bitCount(b) : a - b).get();
            offer = offerOf(sets, n);
        }
        return sets.size();
    }

    private boolean letsBy(int set, int p, int n) {
        for (int t = 0; t < now.things.size(); t++) {
            if ((set >> t & 1) == 1 && now.persons.get(p).has[t] < n) {
                return false;
            }
        }
        return true;
    }

    private int offerOf(List<Integer> sets, int n) {
        int best = -1;
        int least = Integer.MAX_VALUE;
        for (int p = 0; p < now.persons.size(); p++) {
            int who = p;
            int ifLet = (int) sets.stream().filter(set -> letsBy(set, who, n)).count();
            int greatest = Math.max(ifLet, sets.size() - ifLet);
            if (greatest < least) {
                least = greatest;
                best = p;
            }
        }
        return best;
    }

    int smallest() {
        return smallest;
    }

    int offer() {
        return offer;
    }

    int sham(int p) {
        if (!isPerson(p)) {
            return -1;
        }
        int bits = 0;
        for (int q = 0; q < now.persons.size(); q++) {
            boolean couldPass = q != p;
            for (int t = 0; t < 6; t++) {
                couldPass &= now.persons.get(q).has[t] >= now.persons.get(p).has[t];
            }
            bits |= couldPass ? 1 << q : 0;
        }
        return bits;
    }

    int rush() {
        State s = now.copy();
        crowd = 0;
        for (int d = 0; d <= 100; d++) {
            if (s.day > 399) {
                return -1;
            }
            for (int p = 0; p < s.persons.size(); p++) {
                if (!s.isWhereHeWants(s.persons.get(p))) {
                    s.goesBy(p, 1);
                }
            }
            crowd = Math.max(crowd, Integer.bitCount(s.on(1)));
            if (s.persons.stream().allMatch(s::isWhereHeWants)) {
                return d;
            }
            s.goesADay();
        }
        return -1;
    }

    int crowd() {
        return crowd;
    }

    int eased(int e) {
        if (!isEnd(e)) {
            return -1;
        }
        int sum = 0;
        for (int t = 0; t < now.things.size(); t++) {
            int asked = now.asks[e][t];
            for (Person p : now.persons) {
                if (p.place == 1 && p.wants == e) {
                    asked = Math.min(asked, p.has[t]);
                }
            }
            sum += now.asks[e][t] - asked;
        }
        return sum;
    }

    int pass(int p) {
        if (!isPerson(p)) {
            return -1;
        }
        Person him = now.persons.get(p);
        pass = him.name + " may go";
        for (int t = now.things.size() - 1; t >= 0; t--) {
            int less = now.asks[him.wants][t] - him.has[t];
            if (less > 0) {
                pass = him.name + " lacks " + now.things.get(t).name + " " + less;
            }
        }
        return pass.length();
    }

    int byteAt(int i) {
        return i >= 0 && i < pass.length() ? pass.charAt(i) : -1;
    }

    int odds(int p, int n, int seed) {
        if (!isPerson(p) || n < 1 || n > 30) {
            return -1;
        }
        int times = 0;
        for (int i = 0; i < n; i++) {
            State s = now.copy();
            s.drawn(20, seed + i);
            times += s.isWhereHeWants(s.persons.get(p)) ? 1 : 0;
        }
        return times;
    }

    int book(int lives) {
        if (lives != 0 && lives != 1) {
            return -1000;
        }
        List<ToIntFunction<State>> lines = new ArrayList<>();
        try {
            Reader r = new Reader(emptied(), 400);
            while (r.peek().sort != 'e') {
                lines.add(bookLine(r, now, lines.size() == 40));
                r.take(";");
            }
        } catch (Fault f) {
            fault = f.kind;
            return -2 - f.place;
        }
        fault = 0;
        State s = now.copy();
        int right = 0;
        int why = 0;
        while (right < lines.size() && why == 0) {
            why = lines.get(right).applyAsInt(s);
            right += why == 0 ? 1 : 0;
        }
        told = new int[] {why, right, s.day, s.payers()};
        if (lives == 1 && right > 0) {
            keep(now);
            now = s;
        }
        return why == 0 ? -1 : right;
    }

    private static int why(int why, int more) {
        return why == 0 ? 0 : why + more;
    }

    private static ToIntFunction<State> bookLine(Reader r, State s, boolean isTooMany) throws Fault {
        Token first = r.peek();
        boolean isAsk = first.is("ask");
        boolean isDay = first.is("day");
        int p = -1;
        if (isAsk || isDay) {
            r.take();
        } else {
            p = r.person(s);
        }
        if (isTooMany) {
            throw new Fault(4, first);
        }
        if (isAsk) {
            int e = r.end();
            int t = r.thing(s);
            int n = r.number(0, 12);
            return then -> why(then.ask(e, t, n), 40);
        }
        if (isDay) {
            int n = r.number(1, 60);
            return then -> {
                if (400 - then.day < n) {
                    return 51;
                }
                then.days(n);
                return 0;
            };
        }
        return deed(r, s, p);
    }

    private static ToIntFunction<State> deed(Reader r, State s, int p) throws Fault {
        switch (r.oneOf("goes", "joins", "parts", "trades")) {
            case 0: {
                int place = r.place();
                return then -> then.go(p, place);
            }
            case 1: {
                int q = r.person(s);
                return then -> why(then.join(p, q), 10);
            }
            case 2:
                return then -> why(then.part(p), 20);
            default: {
                int t = r.thing(s);
                int q = r.person(s);
                int u = r.thing(s);
                return then -> why(then.trade(p, t, q, u), 30);
            }
        }
    }

    int told(int what) {
        return told != null && what >= 0 && what < 4 ? told[what] : -1;
    }

    private int ones;

    int sentence() {
        ones = 0;
        BiPredicate<State, Integer> read;
        try {
            Reader r = new Reader(emptied(), 200);
            read = cond(r, 1);
            if (r.peek().sort != 'e') {
                throw new Fault(1, r.peek());
            }
        } catch (Fault f) {
            fault = f.kind;
            return -1 - f.place;
        }
        fault = 0;
        sentence = read;
        return ones;
    }

    private BiPredicate<State, Integer> cond(Reader r, int within) throws Fault {
        BiPredicate<State, Integer> c = all(r, within);
        while (r.peek().is("or")) {
            r.take();
            c = c.or(all(r, within));
        }
        return c;
    }

    private BiPredicate<State, Integer> all(Reader r, int within) throws Fault {
        BiPredicate<State, Integer> c = one(r, within);
        while (r.peek().is("and")) {
            r.take();
            c = c.and(one(r, within));
        }
        return c;
    }

    private BiPredicate<State, Integer> one(Reader r, int within) throws Fault {
        Token first = r.peek();
        String[] begins = {"not", "(", "near", "bridge", "far", "pays", "met", "wants", "all", "stayed", "crossed",
            "number"};
        int kind = r.oneOf(begins);
        if (ones == 20 || within == 9) {
            throw new Fault(4, first);
        }
        ones++;
        switch (kind) {
            case 0:
                return one(r, within + 1).negate();
            case 1: {
                BiPredicate<State, Integer> c = cond(r, within + 1);
                r.take(")");
                return c;
            }
            case 2, 3, 4:
                return (s, p) -> s.persons.get(p).place == kind - 2;
            case 5: {
                int e = r.end();
                return (s, p) -> s.couldPay(s.persons.get(p), e);
            }
            case 6:
                return (s, p) -> s.persons.get(p).mate != -1;
            case 7: {
                int e = r.end();
                return (s, p) -> s.persons.get(p).wants == e;
            }
            default: {
                int sign = r.oneOf("<", "=", ">") - 1;
                int n = r.number(0, 999);
                return (s, p) -> Integer.signum(Integer.compare(measure(s, p, kind), n)) == sign;
            }
        }
    }

    private static int measure(State s, int p, int kind) {
        Person him = s.persons.get(p);
        return kind == 8 ? him.all() : kind == 9 ? him.stayed : kind == 10 ? him.gone : p;
    }

    int said(int k) {
        if (sentence == null) {
            return -1;
        }
        List<Integer> who = new ArrayList<>();
        for (int p = 0; p < now.persons.size(); p++) {
            if (sentence.test(now, p)) {
                who.add(p);
            }
        }
        return k == -1 ? who.size() : k >= 0 && k < who.size() ? who.get(k) : -1;
    }

    boolean image(int k) {
        if (k != 0 && k != 1) {
            return false;
        }
        images[k] = new Image(now.copy(), sentence);
        return true;
    }

    boolean restore(int k) {
        if (k != 0 && k != 1 || images[k] == null) {
            return false;
        }
        now = images[k].state.copy();
        sentence = images[k].sentence;
        past.clear();
        return true;
    }

    int count(int what) {
        return switch (what) {
            case 0 -> now.things.size();
            case 1 -> now.persons.size();
            case 2 -> tape.length();
            default -> -1;
        };
    }
}
