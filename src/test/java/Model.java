import java.util.ArrayDeque;
import java.util.ArrayList;
import java.util.Arrays;
import java.util.Comparator;
import java.util.Deque;
import java.util.List;
import java.util.Map;
import java.util.TreeMap;
import java.util.function.ToLongFunction;

/**
 * The document once more, written as plainly as the Java library lets one, and in other ways than
 * the program: texts by recursion, rules as trees, states that are copied, rows that are all tried.
 */
final class Model {
    static final int NONE = -1;

    /** What a rule is asked about. */
    static final class Case {
        Duchy d;
        State s;
        int person;
        int work;
        int helped;
    }

    static final class Kind {
        int price;
        int worth;
    }

    static final class Person {
        int purse;
        int first;
        int span;
        int hands;

        boolean asleep(int hour) {
            for (int i = 0; i < span; i++) {
                if ((first + i) % 24 == hour % 24) {
                    return true;
                }
            }
            return false;
        }
    }

    static final class Duchy {
        int fine;
        int chest;
        List<Kind> kinds = new ArrayList<>();
        List<Person> people = new ArrayList<>();
        List<Integer> works = new ArrayList<>();
        List<Integer> held = new ArrayList<>();
        List<boolean[]> after = new ArrayList<>();

        State begin() {
            State s = new State();
            s.chest = chest;
            for (Person p : people) {
                s.purse.add(p.purse);
            }
            for (int h : held) {
                s.holder.add(h);
                s.stopped.add(0);
                s.sneaked.add(false);
            }
            return s;
        }
    }

    static final class State {
        List<Integer> holder = new ArrayList<>();
        List<Integer> stopped = new ArrayList<>();
        List<Boolean> sneaked = new ArrayList<>();
        List<Integer> purse = new ArrayList<>();
        int chest;
        int hour;

        State copy() {
            State s = new State();
            s.holder.addAll(holder);
            s.stopped.addAll(stopped);
            s.sneaked.addAll(sneaked);
            s.purse.addAll(purse);
            s.chest = chest;
            s.hour = hour;
            return s;
        }

        int holds(int person) {
            return (int) holder.stream().filter(h -> h == person).count();
        }

        int going() {
            return (int) holder.stream().filter(h -> h != NONE).count();
        }

        int wealth() {
            return purse.stream().mapToInt(p -> p).sum();
        }

        void lay(int work) {
            holder.set(work, NONE);
            sneaked.set(work, false);
        }
    }

    static final class Clause {
        ToLongFunction<Case> sum;
        ToLongFunction<Case> test;
    }

    static final class Fault extends RuntimeException {
        private static final long serialVersionUID = 1;
        final int number;

        Fault(int place, int code) {
            this.number = 1 + 8 * place + code;
        }
    }

    static final class World {
        Duchy duchy;
        State now = new State();
        Deque<State> past = new ArrayDeque<>();
        List<int[]> logs = new ArrayList<>();
        int force = NONE;
        int x;

        World copy() {
            World w = new World();
            w.duchy = duchy;
            w.now = now.copy();
            for (State s : past) {
                w.past.addLast(s.copy());
            }
            w.logs.addAll(logs);
            w.force = force;
            w.x = x;
            return w;
        }
    }

    // ---- reading ----

    static class Reader {
        final String text;
        int at;

        Reader(String text) {
            this.text = text;
        }

        void blanks() {
            while (at < text.length() && text.charAt(at) == ' ') {
                at++;
            }
        }

        char peek() {
            blanks();
            return at < text.length() ? text.charAt(at) : (char) 0xffff;
        }

        boolean atEnd() {
            blanks();
            return at == text.length();
        }

        String word() {
            blanks();
            int to = at;
            while (to < text.length() && text.charAt(to) >= 'a' && text.charAt(to) <= 'z') {
                to++;
            }
            return text.substring(at, to);
        }

        int number(int least, int most) {
            blanks();
            int from = at;
            while (at < text.length() && text.charAt(at) >= '0' && text.charAt(at) <= '9') {
                at++;
            }
            if (at == from) {
                throw new Fault(from, 0);
            }
            if (at - from > 5) {
                throw new Fault(from, 1);
            }
            int number = Integer.parseInt(text.substring(from, at));
            if (number < least || number > most) {
                throw new Fault(from, 1);
            }
            return number;
        }
    }

    static Duchy readDuchy(String text) {
        Reader r = new Reader(text);
        Duchy d = new Duchy();
        int clauses = 0;
        while (true) {
            String word = r.word();
            if (!List.of("duchy", "kind", "person", "work", "held", "after").contains(word)) {
                throw new Fault(r.at, 0);
            }
            boolean first = clauses == 0;
            if (clauses == 40 || first != word.equals("duchy")) {
                throw new Fault(r.at, 4);
            }
            if (word.equals("kind") && d.kinds.size() == 5 || word.equals("person") && d.people.size() == 4
                || word.equals("work") && d.works.size() == 6) {
                throw new Fault(r.at, 4);
            }
            r.at += word.length();
            clauses++;
            readClause(r, d, word);
            if (r.atEnd()) {
                return d;
            }
            if (r.peek() != ';') {
                throw new Fault(r.at, 0);
            }
            r.at++;
        }
    }

    static void readClause(Reader r, Duchy d, String word) {
        if (word.equals("duchy")) {
            d.fine = r.number(0, 99);
            d.chest = r.number(0, 9999);
        } else if (word.equals("kind")) {
            Kind k = new Kind();
            k.price = r.number(0, 99);
            k.worth = r.number(0, 9);
            d.kinds.add(k);
        } else if (word.equals("person")) {
            Person p = new Person();
            p.purse = r.number(0, 999);
            p.first = r.number(0, 23);
            p.span = r.number(0, 24);
            p.hands = r.number(1, 3);
            d.people.add(p);
        } else if (word.equals("work")) {
            d.works.add(r.number(0, d.kinds.size() - 1));
            d.held.add(NONE);
            d.after.add(new boolean[6]);
        } else if (word.equals("held")) {
            int w = r.number(0, d.works.size() - 1);
            r.blanks();
            int place = r.at;
            int p = r.number(0, d.people.size() - 1);
            long held = d.held.stream().filter(h -> h == p).count();
            if (d.held.get(w) != NONE || held == d.people.get(p).hands) {
                throw new Fault(place, 1);
            }
            d.held.set(w, p);
        } else {
            int w = r.number(0, d.works.size() - 1);
            r.blanks();
            int place = r.at;
            int from = r.number(0, d.works.size() - 1);
            if (from == w) {
                throw new Fault(place, 1);
            }
            d.after.get(w)[from] = true;
        }
    }

    static final class RuleReader extends Reader {
        int parts;

        RuleReader(String text) {
            super(text);
        }

        List<Clause> rule() {
            List<Clause> clauses = new ArrayList<>();
            while (true) {
                if (!word().equals("take")) {
                    throw new Fault(at, 0);
                }
                if (clauses.size() == 12) {
                    throw new Fault(at, 4);
                }
                at += 4;
                Clause c = new Clause();
                c.sum = sum();
                if (word().equals("if")) {
                    at += 2;
                    c.test = test(0);
                }
                clauses.add(c);
                if (atEnd()) {
                    return clauses;
                }
                if (peek() != ';') {
                    throw new Fault(at, 0);
                }
                at++;
            }
        }

        ToLongFunction<Case> test(int depth) {
            ToLongFunction<Case> left = part(depth);
            while (word().equals("or")) {
                at += 2;
                ToLongFunction<Case> a = left;
                ToLongFunction<Case> b = part(depth);
                left = c -> a.applyAsLong(c) != 0 || b.applyAsLong(c) != 0 ? 1 : 0;
            }
            return left;
        }

        ToLongFunction<Case> part(int depth) {
            ToLongFunction<Case> left = fact(depth);
            while (word().equals("and")) {
                at += 3;
                ToLongFunction<Case> a = left;
                ToLongFunction<Case> b = fact(depth);
                left = c -> a.applyAsLong(c) != 0 && b.applyAsLong(c) != 0 ? 1 : 0;
            }
            return left;
        }

        ToLongFunction<Case> fact(int depth) {
            boolean not = word().equals("not");
            if ((not || peek() == '[') && depth == 10) {
                throw new Fault(at, 2);
            }
            if (not) {
                at += 3;
                ToLongFunction<Case> f = fact(depth + 1);
                return c -> f.applyAsLong(c) != 0 ? 0 : 1;
            }
            if (peek() == '[') {
                at++;
                ToLongFunction<Case> f = test(depth + 1);
                if (peek() != ']') {
                    throw new Fault(at, 0);
                }
                at++;
                return f;
            }
            ToLongFunction<Case> a = sum();
            String sign = sign();
            countPart();
            at += sign.length();
            ToLongFunction<Case> b = sum();
            return c -> compare(sign, a.applyAsLong(c), b.applyAsLong(c)) ? 1 : 0;
        }

        String sign() {
            peek();
            for (String s : List.of("<=", ">=", "<", "=", ">")) {
                if (text.startsWith(s, at)) {
                    return s;
                }
            }
            throw new Fault(at, 0);
        }

        void countPart() {
            if (parts == 60) {
                throw new Fault(at, 3);
            }
            parts++;
        }

        ToLongFunction<Case> sum() {
            ToLongFunction<Case> left = term();
            while (peek() == '+' || peek() == '-') {
                char sign = peek();
                at++;
                ToLongFunction<Case> a = left;
                ToLongFunction<Case> b = term();
                left = c -> sign == '+' ? a.applyAsLong(c) + b.applyAsLong(c) : a.applyAsLong(c) - b.applyAsLong(c);
            }
            return left;
        }

        ToLongFunction<Case> term() {
            ToLongFunction<Case> left = one();
            while (peek() == '*' || peek() == '/' || peek() == '%') {
                char sign = peek();
                at++;
                ToLongFunction<Case> a = left;
                ToLongFunction<Case> b = one();
                left = c -> product(sign, a.applyAsLong(c), b.applyAsLong(c));
            }
            return left;
        }

        ToLongFunction<Case> one() {
            blanks();
            int from = at;
            if (at < text.length() && Character.isDigit(text.charAt(at)) && text.charAt(at) < 128) {
                int number = number(0, 99999);
                int to = at;
                at = from;
                countPart();
                at = to;
                return c -> number;
            }
            String word = word();
            if (!List.of("person", "work", "kind", "worth", "price", "purse", "holds", "hands", "hour", "awake",
                "sneaked", "stopped").contains(word)) {
                throw new Fault(at, 0);
            }
            countPart();
            at += word.length();
            return c -> Model.word(word, c);
        }
    }

    static boolean compare(String sign, long a, long b) {
        switch (sign) {
            case "<": return a < b;
            case "<=": return a <= b;
            case "=": return a == b;
            case ">=": return a >= b;
            default: return a > b;
        }
    }

    static long product(char sign, long a, long b) {
        if (sign == '*') {
            return a * b;
        }
        if (b == 0) {
            return 0;
        }
        return sign == '/' ? a / b : a - a / b * b;
    }

    static long word(String word, Case c) {
        Kind kind = c.d.kinds.get(c.d.works.get(c.work));
        Person person = c.d.people.get(c.person);
        switch (word) {
            case "person": return c.person;
            case "work": return c.work;
            case "kind": return c.d.works.get(c.work);
            case "worth": return kind.worth;
            case "price": return kind.price;
            case "purse": return c.s.purse.get(c.person);
            case "holds": return c.s.holds(c.person);
            case "hands": return person.hands + (c.person == c.helped ? 1 : 0);
            case "hour": return c.s.hour;
            case "awake":
                int hours = 0;
                while (hours < 24 && !person.asleep(c.s.hour + hours)) {
                    hours++;
                }
                return hours;
            case "sneaked": return c.s.sneaked.get(c.work) ? 1 : 0;
            default: return c.s.stopped.get(c.work);
        }
    }

    // ---- the object ----

    private final StringBuilder tape = new StringBuilder();
    private final List<List<Clause>> rules = new ArrayList<>();
    private World w = new World();
    private final World[] images = new World[4];

    int feed(int... numbers) {
        if (tape.length() + 20 > 400) {
            return NONE;
        }
        for (int number : numbers) {
            for (int i = 3; i >= 0; i--) {
                tape.append((char) (number >> 8 * i & 255));
            }
        }
        return tape.length();
    }

    int end(int n) {
        if (n < 0 || n > tape.length()) {
            return NONE;
        }
        tape.setLength(n);
        return n;
    }

    int duchy() {
        String text = tape.toString();
        tape.setLength(0);
        try {
            w.duchy = readDuchy(text);
        } catch (Fault f) {
            return -2 - f.number;
        }
        w.now = w.duchy.begin();
        w.past.clear();
        w.logs.clear();
        return w.duchy.works.size();
    }

    int rule() {
        if (rules.size() == 6) {
            return NONE;
        }
        String text = tape.toString();
        tape.setLength(0);
        try {
            rules.add(new RuleReader(text).rule());
        } catch (Fault f) {
            return -2 - f.number;
        }
        return rules.size() - 1;
    }

    int force(int rule) {
        if (rule < -1 || rule >= rules.size()) {
            return -2;
        }
        int was = w.force;
        w.force = rule;
        return was;
    }

    private boolean isKind(int k) {
        return w.duchy != null && k >= 0 && k < w.duchy.kinds.size();
    }

    private boolean isPerson(int p) {
        return w.duchy != null && p >= 0 && p < w.duchy.people.size();
    }

    private boolean isWork(int k) {
        return w.duchy != null && k >= 0 && k < w.duchy.works.size();
    }

    private boolean goes(int k) {
        return isWork(k) && w.now.holder.get(k) != NONE;
    }

    private boolean awake(int p) {
        return isPerson(p) && !w.duchy.people.get(p).asleep(w.now.hour);
    }

    private boolean free(int p) {
        return isPerson(p) && w.now.holds(p) < w.duchy.people.get(p).hands;
    }

    int kind(int kind, int what) {
        if (!isKind(kind) || what < 0 || what > 1) {
            return NONE;
        }
        Kind k = w.duchy.kinds.get(kind);
        return what == 0 ? k.price : k.worth;
    }

    int person(int person, int what) {
        if (!isPerson(person) || what < 0 || what > 5) {
            return NONE;
        }
        Person p = w.duchy.people.get(person);
        int bits = 0;
        for (int i = 0; i < w.now.holder.size(); i++) {
            bits += w.now.holder.get(i) == person ? 1 << i : 0;
        }
        return new int[] {w.now.purse.get(person), p.first, p.span, p.hands, bits, awake(person) ? 1 : 0}[what];
    }

    int work(int work, int what) {
        if (!isWork(work) || what < 0 || what > 4) {
            return -2;
        }
        int bits = 0;
        for (int i = 0; i < 6; i++) {
            bits += w.duchy.after.get(work)[i] ? 1 << i : 0;
        }
        return new int[] {w.duchy.works.get(work), w.now.holder.get(work), w.now.sneaked.get(work) ? 1 : 0,
            w.now.stopped.get(work), bits}[what];
    }

    /** One hour by a rule: which works stopped. */
    private List<Integer> pass(State s, int rule, int helped) {
        List<Integer> stops = new ArrayList<>();
        Duchy d = w.duchy;
        for (int work = 0; work < s.holder.size(); work++) {
            int h = s.holder.get(work);
            if (h == NONE || !d.people.get(h).asleep(s.hour)) {
                continue;
            }
            TreeMap<Long, Integer> bySum = new TreeMap<>();
            for (int p = 0; p < d.people.size(); p++) {
                Person person = d.people.get(p);
                if (!person.asleep(s.hour) && s.holds(p) < person.hands + (p == helped ? 1 : 0)) {
                    bySum.putIfAbsent(rule == NONE ? 1L : sum(rules.get(rule), s, work, p, helped), p);
                }
            }
            Map.Entry<Long, Integer> best = bySum.lastEntry();
            if (best != null && best.getKey() > 0) {
                s.holder.set(work, best.getValue());
            } else {
                s.lay(work);
                s.stopped.set(work, s.stopped.get(work) + 1);
                stops.add(work);
            }
        }
        for (int work = 0; work < s.holder.size(); work++) {
            int h = s.holder.get(work);
            if (h != NONE) {
                s.purse.set(h, Math.min(9999, s.purse.get(h) + d.kinds.get(d.works.get(work)).worth));
            }
        }
        for (int work = 0; work < s.holder.size() && s.hour % 24 == 0; work++) {
            if (s.sneaked.get(work)) {
                int h = s.holder.get(work);
                int pays = Math.min(d.fine, s.purse.get(h));
                s.purse.set(h, s.purse.get(h) - pays);
                s.chest = Math.min(99999, s.chest + pays);
                s.sneaked.set(work, false);
            }
        }
        s.hour++;
        return stops;
    }

    private long sum(List<Clause> rule, State s, int work, int person, int helped) {
        Case c = new Case();
        c.d = w.duchy;
        c.s = s;
        c.work = work;
        c.person = person;
        c.helped = helped;
        for (Clause clause : rule) {
            if (clause.test == null || clause.test.applyAsLong(c) != 0) {
                return clause.sum.applyAsLong(c);
            }
        }
        return 0;
    }

    private void remember() {
        w.past.addLast(w.now.copy());
        if (w.past.size() > 20) {
            w.past.removeFirst();
        }
    }

    int hour() {
        if (w.duchy == null || w.now.hour == 999) {
            return NONE;
        }
        remember();
        return pass(w.now, w.force, NONE).size();
    }

    int begin(int work, int person) {
        if (!isWork(work) || goes(work) || !awake(person) || !free(person)) {
            return NONE;
        }
        int price = w.duchy.kinds.get(w.duchy.works.get(work)).price;
        if (w.now.purse.get(person) < price) {
            return NONE;
        }
        remember();
        w.now.purse.set(person, w.now.purse.get(person) - price);
        w.now.chest = Math.min(99999, w.now.chest + price);
        w.now.holder.set(work, person);
        return w.now.purse.get(person);
    }

    int sneak(int work, int person) {
        if (!isWork(work) || goes(work) || !awake(person) || !free(person)) {
            return NONE;
        }
        remember();
        w.now.holder.set(work, person);
        w.now.sneaked.set(work, true);
        return count(9);
    }

    int hand(int work, int person) {
        if (!goes(work) || !awake(person) || !free(person) || !awake(w.now.holder.get(work))
            || w.now.holder.get(work) == person) {
            return NONE;
        }
        remember();
        return w.now.holder.set(work, person);
    }

    int drop(int work) {
        if (!goes(work)) {
            return NONE;
        }
        remember();
        int held = w.now.holder.get(work);
        w.now.lay(work);
        return held;
    }

    int undo() {
        if (w.past.isEmpty()) {
            return -2;
        }
        w.now = w.past.removeLast();
        return w.past.size();
    }

    private State later(int n) {
        State s = w.now.copy();
        for (int i = 0; i < n; i++) {
            pass(s, w.force, NONE);
        }
        return s;
    }

    int ahead(int number, int n, int what) {
        if (w.duchy == null || n < 0 || n > 100) {
            return -2;
        }
        if (what == 0 && isWork(number)) {
            return later(n).holder.get(number);
        }
        if (what == 1 && isPerson(number)) {
            return later(n).purse.get(number);
        }
        return what == 2 ? later(n).chest : -2;
    }

    int stops(int work) {
        if (!goes(work)) {
            return NONE;
        }
        State s = w.now.copy();
        for (int i = 0; i < 200; i++) {
            if (pass(s, w.force, NONE).contains(work)) {
                return w.now.hour + i;
            }
        }
        return -2;
    }

    int save(int person, int kind) {
        if (!isPerson(person) || !isKind(kind)) {
            return NONE;
        }
        State s = w.now.copy();
        for (int i = 0; i < 200; i++) {
            if (s.purse.get(person) >= w.duchy.kinds.get(kind).price) {
                return w.now.hour + i;
            }
            pass(s, w.force, NONE);
        }
        return -2;
    }

    /** Rows by the person they end with; of each the best: fewest handings, then the first. */
    private int[] bestRow(int holder, int n) {
        Comparator<int[]> better = (a, b) -> handings(holder, a) != handings(holder, b)
            ? handings(holder, a) - handings(holder, b) : Arrays.compare(a, b);
        List<int[]> rows = new ArrayList<>();
        rows.add(new int[0]);
        for (int k = 0; k < n; k++) {
            List<int[]> next = new ArrayList<>();
            for (int p = 0; p < w.duchy.people.size(); p++) {
                int[] best = null;
                for (int[] row : rows) {
                    if (!w.duchy.people.get(p).asleep(w.now.hour + k)) {
                        int[] longer = Arrays.copyOf(row, k + 1);
                        longer[k] = p;
                        best = best == null || better.compare(longer, best) < 0 ? longer : best;
                    }
                }
                if (best != null) {
                    next.add(best);
                }
            }
            rows = next;
        }
        return rows.stream().min(better).orElse(null);
    }

    private static int handings(int holder, int[] row) {
        int handings = 0;
        int before = holder;
        for (int p : row) {
            handings += p == before ? 0 : 1;
            before = p;
        }
        return handings;
    }

    int relay(int work, int n, int what) {
        if (!goes(work) || n < 1 || n > 48 || what < -1 || what > 47) {
            return -3;
        }
        int[] row = bestRow(w.now.holder.get(work), n);
        if (row == null || what >= n) {
            return -2;
        }
        return what == NONE ? handings(w.now.holder.get(work), row) : row[what];
    }

    int most(int n, int what) {
        if (w.duchy == null || n < 1 || n > 48 || what < 0 || what > 1) {
            return NONE;
        }
        int least = Integer.MAX_VALUE;
        int when = 0;
        for (int i = n - 1; i >= 0; i--) {
            int hands = 0;
            for (Person p : w.duchy.people) {
                hands += p.asleep(w.now.hour + i) ? 0 : p.hands;
            }
            if (hands <= least) {
                least = hands;
                when = w.now.hour + i;
            }
        }
        return what == 0 ? least : when;
    }

    int chains(int what) {
        if (w.duchy == null || what < 0 || what > 7) {
            return -3;
        }
        int works = w.duchy.works.size();
        if (what >= 2 && what - 2 >= works) {
            return -2;
        }
        int[] best = null;
        int[] row = new int[works];
        Arrays.fill(row, NONE);
        boolean more = true;
        while (more) {
            if (isChain(row) && (best == null || begins(row) < begins(best))) {
                best = row.clone();
            }
            more = nextRow(row);
        }
        if (what >= 2) {
            return best[what - 2];
        }
        int cost = 0;
        for (int i = 0; i < works; i++) {
            cost += best[i] == NONE ? w.duchy.kinds.get(w.duchy.works.get(i)).price : 0;
        }
        return what == 0 ? begins(best) : cost;
    }

    /** The next row of what each can go on from, the last work turning fastest. */
    private boolean nextRow(int[] row) {
        for (int i = row.length - 1; i >= 0; i--) {
            for (int from = row[i] + 1; from < row.length; from++) {
                if (w.duchy.after.get(i)[from]) {
                    row[i] = from;
                    return true;
                }
            }
            row[i] = NONE;
        }
        return false;
    }

    private static int begins(int[] row) {
        return (int) Arrays.stream(row).filter(f -> f == NONE).count();
    }

    private static boolean isChain(int[] row) {
        for (int i = 0; i < row.length; i++) {
            for (int j = 0; j < i; j++) {
                if (row[i] != NONE && row[i] == row[j]) {
                    return false;
                }
            }
            int at = i;
            for (int steps = 0; steps < row.length && at != NONE; steps++) {
                at = row[at];
            }
            if (at != NONE) {
                return false;
            }
        }
        return true;
    }

    int tariff(int kind, int what) {
        if (!isKind(kind) || what < 0 || what > 1) {
            return NONE;
        }
        int best = 0;
        int most = -1;
        for (int price = 0; price < 100; price++) {
            int sold = 0;
            for (int purse : w.now.purse) {
                sold += purse >= price ? 1 : 0;
            }
            int lie = 0;
            for (int i = 0; i < w.now.holder.size(); i++) {
                lie += w.duchy.works.get(i) == kind && !goes(i) ? 1 : 0;
            }
            if (Math.min(sold, lie) * price > most) {
                most = Math.min(sold, lie) * price;
                best = price;
            }
        }
        return what == 0 ? best : most;
    }

    int help(int n, int what) {
        if (w.duchy == null || n < 1 || n > 48 || what < 0 || what > 1) {
            return -2;
        }
        int best = -2;
        int fewest = Integer.MAX_VALUE;
        for (int p = NONE; p < w.duchy.people.size(); p++) {
            State s = w.now.copy();
            int stops = 0;
            for (int i = 0; i < n; i++) {
                stops += pass(s, w.force, p).size();
            }
            if (stops < fewest) {
                fewest = stops;
                best = p;
            }
        }
        return what == 0 ? best : fewest;
    }

    int value(int work, int n) {
        if (!goes(work) || n < 1 || n > 48) {
            return -100000;
        }
        State s = w.now.copy();
        s.lay(work);
        for (int i = 0; i < n; i++) {
            pass(s, w.force, NONE);
        }
        return later(n).wealth() - s.wealth();
    }

    int watch(int k) {
        if (w.duchy == null || k < 0 || k > 23) {
            return NONE;
        }
        List<Integer> hours = new ArrayList<>();
        for (int h = 0; h < 24; h++) {
            hours.add(h);
        }
        hours.sort(Comparator.comparingLong(h -> w.duchy.people.stream().filter(p -> !p.asleep(h)).count()));
        return hours.get(k);
    }

    int log(int n, int work, int person) {
        if (n == NONE) {
            w.logs.clear();
            return 0;
        }
        if (n < 0 || n > 60 || !isWork(work) || person != NONE && !isPerson(person) || w.logs.size() == 10) {
            return -2;
        }
        w.logs.add(new int[] {n, work, person});
        return w.logs.size();
    }

    /** By candidate: who held what behind each hour; only of those that are as the logs tell. */
    private Map<Integer, List<State>> fitting() {
        Map<Integer, List<State>> found = new TreeMap<>();
        for (int r = NONE; r < rules.size(); r++) {
            List<State> states = new ArrayList<>();
            State s = w.duchy.begin();
            for (int i = 0; i <= 60; i++) {
                pass(s, r, NONE);
                states.add(s.copy());
            }
            if (w.logs.stream().allMatch(l -> states.get(l[0]).holder.get(l[1]) == l[2])) {
                found.put(r, states);
            }
        }
        return found;
    }

    int ruled(int what) {
        if (w.duchy == null || what < 0 || what > 1) {
            return -3;
        }
        Map<Integer, List<State>> found = fitting();
        if (what == 0) {
            return found.size();
        }
        return found.isEmpty() ? -2 : found.keySet().iterator().next();
    }

    int look(int n, int what) {
        if (w.duchy == null || n < 0 || n > 60 || what < 0 || what > 1) {
            return NONE;
        }
        Map<Integer, List<State>> found = fitting();
        if (found.isEmpty()) {
            return -2;
        }
        int best = -2;
        int fewest = -2;
        for (int work = 0; work < w.duchy.works.size(); work++) {
            Map<Integer, Integer> groups = new TreeMap<>();
            for (List<State> states : found.values()) {
                groups.merge(states.get(n).holder.get(work), 1, Integer::sum);
            }
            int alike = groups.values().stream().max(Comparator.naturalOrder()).get();
            if (best == -2 || alike < fewest) {
                best = work;
                fewest = alike;
            }
        }
        return what == 0 ? best : fewest;
    }

    int seed(int x) {
        if (x < 0) {
            return NONE;
        }
        int was = w.x;
        w.x = x;
        return was;
    }

    int nights(int m, int n, int p, int what) {
        if (w.duchy == null || m < 1 || m > 10 || n < 1 || n > 60 || p < 0 || p > 100 || what < 0 || what > 1) {
            return NONE;
        }
        long[] x = {w.x};
        int ends = 0;
        int going = 0;
        for (int i = 0; i < m; i++) {
            State s = w.now.copy();
            for (int j = 0; j < n; j++) {
                if (draw(x) % 100 < p && s.going() > 0) {
                    List<Integer> goers = new ArrayList<>();
                    for (int k = 0; k < s.holder.size(); k++) {
                        if (s.holder.get(k) != NONE) {
                            goers.add(k);
                        }
                    }
                    s.lay(goers.get((int) (draw(x) % goers.size())));
                    ends++;
                }
                ends += pass(s, w.force, NONE).size();
            }
            going += s.going();
        }
        return what == 0 ? ends : going;
    }

    private static long draw(long[] x) {
        x[0] = (x[0] * 1103515245L + 12345) % 2147483648L;
        return x[0] / 65536;
    }

    int count(int what) {
        boolean told = w.duchy != null;
        int going = 0;
        int sneaked = 0;
        for (int i = 0; i < w.now.holder.size(); i++) {
            going += goes(i) ? 1 << i : 0;
            sneaked += w.now.sneaked.get(i) ? 1 << i : 0;
        }
        int awake = 0;
        for (int i = 0; i < 4; i++) {
            awake += awake(i) ? 1 << i : 0;
        }
        int[] all = {told ? w.duchy.fine : 0, w.now.chest, told ? w.duchy.kinds.size() : 0,
            told ? w.duchy.people.size() : 0, told ? w.duchy.works.size() : 0, rules.size(), w.force, w.now.hour,
            going, sneaked, awake, w.logs.size(), w.past.size(), w.x, tape.length()};
        return what >= 0 && what < all.length ? all[what] : NONE;
    }

    int image(int k) {
        if (k < 0 || k > 3) {
            return NONE;
        }
        images[k] = w.copy();
        return w.now.hour;
    }

    int back(int k) {
        if (k < 0 || k > 3 || images[k] == null) {
            return NONE;
        }
        w = images[k].copy();
        return w.now.hour;
    }
}
