import java.util.ArrayList;
import java.util.Arrays;
import java.util.LinkedHashSet;
import java.util.List;
import java.util.Set;

/** Long runs of calls, each answered by a plain model of the document too, written in another way. */
public final class ModelTest {
    static final int RUNS = 600, CALLS = 490, SEATED = 1500, TEXTS = 20000;
    static int wrong = 0;

    // ---- a number that looks random, the same in every run of the test

    static long seed = 20261118L;

    static int next(int bound) {
        seed = seed * 6364136223846793005L + 1442695040888963407L;
        return (int) ((seed >>> 33) % bound);
    }

    static int between(int least, int most) {
        return least + next(most - least + 1);
    }

    // ---- the model's people, a class for each kind

    static class Person implements Cloneable {
        int i, kind, v, born, life, has = -1;
        int[] row = new int[4];
        List<Integer> ran;

        int drunk(Model m, int y) { return y - born; }

        int ageWith(Model m, int has) {
            return has < 0 ? m.year - born : drunk(m, m.wineYear.get(has));
        }

        boolean hereAt(int age) { return 0 <= age && age <= life; }

        int drinks(int x) { ran.add(1); return x + i; }

        int ages(int x) { ran.add(2); return drinks(x) - v; }

        int tells(int x) { ran.add(3); return ages(x) * 2; }

        Person copy() {
            try {
                Person p = (Person) clone();
                p.row = row.clone();
                return p;
            } catch (CloneNotSupportedException e) {
                throw new IllegalStateException(e);
            }
        }
    }

    static class Heavy extends Person {
        int drunk(Model m, int y) { return super.drunk(m, y) - v; }
        int drinks(int x) { ran.add(11); return super.drinks(x * 3); }
    }

    static class Light extends Person {
        int drunk(Model m, int y) {
            int off = y - m.year;
            return m.year - born + (off < 0 ? -(-off / 2) : off / 2);
        }
        int ages(int x) { ran.add(21); return -super.ages(x); }
    }

    static class Steady extends Person {
        int drunk(Model m, int y) { return m.year - born; }
        int tells(int x) { ran.add(31); return super.tells(x) ^ 7; }
    }

    static class Deep extends Heavy {
        int drunk(Model m, int y) { return super.drunk(m, y) - v; }
        int tells(int x) { ran.add(41); return super.tells(x - 1) + drinks(2); }
    }

    static class Sipping extends Light {
        int drunk(Model m, int y) {
            int light = super.drunk(m, y);
            return light > m.year - born ? m.year - born : light;
        }
        int drinks(int x) { ran.add(51); return super.drinks(x) ^ i; }
    }

    static class Told extends Steady {
        int drunk(Model m, int y) { return super.drunk(m, y) - row[y % 4]; }
        int ages(int x) { ran.add(61); return super.ages(x) + v; }
    }

    static final Class<?>[] KINDS = {
        Person.class, Heavy.class, Light.class, Steady.class, Deep.class, Sipping.class, Told.class};

    static Person ofKind(int kind) {
        switch (kind) {
            case 1: return new Heavy();
            case 2: return new Light();
            case 3: return new Steady();
            case 4: return new Deep();
            case 5: return new Sipping();
            case 6: return new Told();
            default: return new Person();
        }
    }

    // ---- villages: the grammar as rules that are written out, sign by sign

    /** The ways in which a symbol of the grammar can be written; null: it is a sign itself. */
    static String[][] waysOf(String symbol) {
        if (symbol.length() == 1) {
            return null;
        }
        int n = Integer.parseInt(symbol.substring(1));
        String more = Integer.toString(n + 1);
        switch (symbol.charAt(0)) {
            case 'C': return new String[][] {
                {"g", "r", "o", "w", "n", " ", "N0", "R" + n}, {"o", "l", "d", " ", "N0", "R" + n},
                {"b", "o", "l", "d", " ", "N0", " ", "E0", "R" + n}, {"m", "e", "e", "k", " ", "N0", " ", "E0", "R" + n}};
            case 'R': return n < 10 ? new String[][] {{}, {";", "C" + more}} : new String[][] {{}};
            case 'E': return new String[][] {{"T" + n, "e" + n}};
            case 'e': return new String[][] {{}, {"|", "E" + n}};
            case 'T': return new String[][] {{"F" + n, "t" + n}};
            case 't': return new String[][] {{}, {"&", "T" + n}};
            case 'F': {
                String[] test = {"L0", "O0", "N0"};
                return n < 5 ? new String[][] {test, {"!", "F" + more}, {"(", "E" + more, ")"}} : new String[][] {test};
            }
            case 'L': return signs("pkvash");
            case 'O': return signs("<=>");
            case 'N': return new String[][] {{"0"}, {"D0"}, {"D0", "D1"}};
            default: return signs(n == 0 ? "123456789" : "0123456789");
        }
    }

    static String[][] signs(String all) {
        String[][] ways = new String[all.length()][];
        for (int i = 0; i < ways.length; i++) {
            ways[i] = new String[] {all.substring(i, i + 1)};
        }
        return ways;
    }

    /** All that can stand yet to be written, so that a sign or nothing is ahead. */
    static void open(List<String> rest, Set<List<String>> to) {
        if (rest.isEmpty() || waysOf(rest.get(0)) == null) {
            to.add(rest);
            return;
        }
        for (String[] way : waysOf(rest.get(0))) {
            List<String> longer = new ArrayList<>(Arrays.asList(way));
            longer.addAll(rest.subList(1, rest.size()));
            open(longer, to);
        }
    }

    /** The fault of a text; -1: it is a village. */
    static int faultOf(String text) {
        Set<List<String>> rests = new LinkedHashSet<>();
        open(Arrays.asList("C1"), rests);
        for (int i = 0; i < text.length(); i++) {
            Set<List<String>> then = new LinkedHashSet<>();
            for (List<String> rest : rests) {
                if (!rest.isEmpty() && rest.get(0).charAt(0) == text.charAt(i)) {
                    open(rest.subList(1, rest.size()), then);
                }
            }
            if (then.isEmpty()) {
                return i;
            }
            rests = then;
        }
        return rests.contains(new ArrayList<String>()) ? -1 : text.length();
    }

    /** Where a sign stands outside of all brackets; -1: nowhere. */
    static int outside(String e, char sign) {
        int depth = 0;
        for (int i = 0; i < e.length(); i++) {
            char c = e.charAt(i);
            depth += c == '(' ? 1 : c == ')' ? -1 : 0;
            if (depth == 0 && c == sign) {
                return i;
            }
        }
        return -1;
    }

    static boolean holds(String e, int[] facts) {
        int at = outside(e, '|');
        if (at >= 0) {
            return holds(e.substring(0, at), facts) | holds(e.substring(at + 1), facts);
        }
        at = outside(e, '&');
        if (at >= 0) {
            return holds(e.substring(0, at), facts) & holds(e.substring(at + 1), facts);
        }
        if (e.charAt(0) == '!') {
            return !holds(e.substring(1), facts);
        }
        if (e.charAt(0) == '(') {
            return holds(e.substring(1, e.length() - 1), facts);
        }
        int fact = facts["pkvash".indexOf(e.charAt(0))], n = Integer.parseInt(e.substring(2));
        return e.charAt(1) == '<' ? fact < n : e.charAt(1) == '>' ? fact > n : fact == n;
    }

    // ---- the model

    static final class Model {
        int year = 100;
        String tape = "", village = "";
        List<String> villages = new ArrayList<>();
        List<Person> people = new ArrayList<>();
        List<Integer> wineYear = new ArrayList<>(), bottles = new ArrayList<>();
        List<int[]> seen = new ArrayList<>(), night = new ArrayList<>(), book = new ArrayList<>();

        Model copy() {
            Model m = new Model();
            m.year = year;
            m.tape = tape;
            m.villages.addAll(villages);
            for (Person p : people) {
                m.people.add(p.copy());
            }
            m.wineYear.addAll(wineYear);
            m.bottles.addAll(bottles);
            m.seen.addAll(seen);
            m.night.addAll(night);
            m.book.addAll(book);
            return m;
        }

        boolean one(int p) { return p >= 0 && p < people.size(); }

        boolean wine(int w) { return w >= 0 && w < wineYear.size(); }

        String[] clauses() {
            return villages.isEmpty() ? new String[0] : villages.get(villages.size() - 1).split(";");
        }

        int last(String word, int without) {
            int n = without;
            for (String c : clauses()) {
                if (c.startsWith(word + " ")) {
                    n = Integer.parseInt(c.split(" ")[1]);
                }
            }
            return n;
        }

        int stage(Person p, int has) {
            int age = p.ageWith(this, has);
            return !p.hereAt(age) ? 0 : age < last("grown", 18) ? 1 : age >= last("old", 60) ? 3 : 2;
        }

        int nerve(Person p, int has) {
            if (stage(p, has) == 0) {
                return 0;
            }
            int[] facts = {p.i, p.kind, p.v, Math.max(0, p.ageWith(this, has)) / 10, stage(p, has), has < 0 ? 9 : has};
            int bold = 10, meek = 0;
            for (String c : clauses()) {
                String[] part = c.split(" ");
                if (part.length == 3 && holds(part[2], facts)) {
                    if (part[0].equals("bold")) {
                        bold += Integer.parseInt(part[1]);
                    } else {
                        meek += Integer.parseInt(part[1]);
                    }
                }
            }
            return bold < meek ? 0 : bold - meek;
        }

        int hereBits() {
            int bits = 0;
            for (Person p : people) {
                bits += stage(p, p.has) > 0 ? 1 << p.i : 0;
            }
            return bits;
        }

        int nerveOfAll() { return people.stream().mapToInt(p -> nerve(p, p.has)).sum(); }

        int bottlesInAll() { return bottles.stream().mapToInt(b -> b).sum(); }

        void dawn() {
            year++;
            people.forEach(p -> p.has = -1);
        }

        boolean pour(int p, int w) {
            if (bottles.get(w) == 0) {
                return false;
            }
            bottles.set(w, bottles.get(w) - 1);
            people.get(p).has = w;
            return true;
        }

        boolean asSeen(Person p, int has) {
            return seen.stream().allMatch(s -> s[0] != p.i || s[1] == p.ageWith(this, has));
        }

        // ---- seatings, all of them in their order

        /** The best seating: what, as of the call, then what each has; null: there is none. */
        int[] best(int aim, int set) {
            int n = people.size(), ways = wineYear.size() + 1;
            int[][] age = new int[n][ways], bold = new int[n][ways];
            for (int p = 0; p < n; p++) {
                for (int c = 0; c < ways; c++) {
                    age[p][c] = people.get(p).ageWith(this, c - 1);
                    bold[p][c] = nerve(people.get(p), c - 1);
                }
            }
            int[] seat = new int[n], best = null;
            int bestCost = 0, bestHave = 0;
            do {
                if (!enough(seat) || (aim < 2 && !justHere(seat, age, aim == 0 ? set : (1 << n) - 1))) {
                    continue;
                }
                int cost = aim == 0 ? 0 : aim == 1 ? spread(seat, age) : -total(seat, bold);
                int have = (int) Arrays.stream(seat).filter(c -> c > 0).count();
                if (best == null || cost < bestCost || (cost == bestCost && have < bestHave)) {
                    best = seat.clone();
                    bestCost = cost;
                    bestHave = have;
                }
            } while (turn(seat, ways));
            if (best == null) {
                return null;
            }
            int[] answer = new int[n + 1];
            answer[0] = aim == 0 ? bestHave : Math.abs(bestCost);
            for (int p = 0; p < n; p++) {
                answer[p + 1] = best[p] == 0 ? -5 : best[p] - 1;
            }
            return answer;
        }

        static boolean turn(int[] seat, int ways) {
            for (int p = seat.length - 1; p >= 0; p--) {
                if (++seat[p] < ways) {
                    return true;
                }
                seat[p] = 0;
            }
            return false;
        }

        boolean enough(int[] seat) {
            for (int w = 0; w < wineYear.size(); w++) {
                int of = w + 1;
                if (Arrays.stream(seat).filter(c -> c == of).count() > bottles.get(w)) {
                    return false;
                }
            }
            return true;
        }

        boolean justHere(int[] seat, int[][] age, int set) {
            for (int p = 0; p < seat.length; p++) {
                if (people.get(p).hereAt(age[p][seat[p]]) != ((set >> p & 1) == 1)) {
                    return false;
                }
            }
            return true;
        }

        static int spread(int[] seat, int[][] age) {
            int least = 9999, most = -9999;
            for (int p = 0; p < seat.length; p++) {
                least = Math.min(least, age[p][seat[p]]);
                most = Math.max(most, age[p][seat[p]]);
            }
            return seat.length == 0 ? 0 : most - least;
        }

        static int total(int[] seat, int[][] bold) {
            int sum = 0;
            for (int p = 0; p < seat.length; p++) {
                sum += bold[p][seat[p]];
            }
            return sum;
        }
    }

    // ---- what the model answers

    static final class Table {
        Model m = new Model(), image = null;
        List<Integer> trace = new ArrayList<>();

        int feed(int sign) {
            if (sign < 0 || sign > 127) return -2;
            if (m.tape.length() == 100) return -4;
            m.tape += (char) sign;
            return m.tape.length();
        }

        int village() {
            if (m.villages.size() == 5) return -4;
            String text = m.tape;
            m.tape = "";
            int fault = faultOf(text);
            if (fault >= 0) return -10 - fault;
            m.villages.add(text);
            return m.villages.size() - 1;
        }

        int person(int kind, int v, int born, int life) {
            if (kind < 0 || kind > 6) return -1;
            if (v < 0 || v > 9 || born < 0 || born > 199 || life < 0 || life > 120) return -2;
            if (m.people.size() == 6) return -4;
            Person p = ofKind(kind);
            p.i = m.people.size();
            p.kind = kind;
            p.v = v;
            p.born = born;
            p.life = life;
            m.people.add(p);
            return p.i;
        }

        int vintage(int year, int bottles) {
            if (year < 0 || year > 199 || bottles < 0 || bottles > 99) return -2;
            if (m.wineYear.size() == 5) return -4;
            m.wineYear.add(year);
            m.bottles.add(bottles);
            return m.wineYear.size() - 1;
        }

        int of(int person, int what) {
            if (!m.one(person) || what < 0 || what > 8) return -10001;
            Person p = m.people.get(person);
            int[] all = {p.kind, p.v, p.born, p.life, p.has < 0 ? -5 : p.has, p.ageWith(m, p.has),
                p.hereAt(p.ageWith(m, p.has)) ? 1 : 0, m.stage(p, p.has), m.nerve(p, p.has)};
            return all[what];
        }

        int row(int person, int k, int n) {
            if (!m.one(person) || k < 0 || k > 3) return -1;
            if (n < 0 || n > 9) return -2;
            if (m.people.get(person).kind != 6) return -3;
            int was = m.people.get(person).row[k];
            m.people.get(person).row[k] = n;
            return was;
        }

        int wine(int w, int what) {
            if (!m.wine(w) || what < 0 || what > 1) return -1;
            return (what == 0 ? m.wineYear : m.bottles).get(w);
        }

        int stock(int w, int n) {
            if (!m.wine(w)) return -1;
            if (n < 0 || n > 99) return -2;
            return m.bottles.set(w, n);
        }

        int told(int what) {
            if (what < 0 || what > 5) return -1;
            return new int[] {m.year, m.last("grown", 18), m.last("old", 60), m.hereBits(), m.nerveOfAll(), m.bottlesInAll()}[what];
        }

        int pour(int p, int w) {
            if (!m.one(p) || !m.wine(w)) return -1;
            return m.pour(p, w) ? m.stage(m.people.get(p), w) : -3;
        }

        int dry(int p) {
            if (!m.one(p)) return -1;
            int had = m.people.get(p).has;
            m.people.get(p).has = -1;
            return had < 0 ? -5 : had;
        }

        int dawn(int n) {
            if (n < 1 || n > 99) return -2;
            if (m.year + n > 999) return -3;
            for (int i = 0; i < n; i++) m.dawn();
            return m.year;
        }

        int blend(int a, int b) {
            if (!m.wine(a) || !m.wine(b)) return -1;
            if (a == b) return -2;
            if (m.bottles.get(a) == 0 || m.bottles.get(b) == 0) return -3;
            if (m.wineYear.size() == 5) return -4;
            m.bottles.set(a, m.bottles.get(a) - 1);
            m.bottles.set(b, m.bottles.get(b) - 1);
            return vintage((m.wineYear.get(a) + m.wineYear.get(b)) / 2, 2);
        }

        int alive(int n) {
            if (n < 0 || n > 99) return -2;
            Model later = m.copy();
            for (int i = 0; i < n; i++) later.dawn();
            return later.hereBits();
        }

        int brings(int p) {
            if (!m.one(p)) return -1;
            int bits = 0;
            for (int w = 0; w < m.wineYear.size(); w++) {
                if (m.bottles.get(w) > 0 && m.stage(m.people.get(p), w) != 0) bits += 1 << w;
            }
            return bits;
        }

        int nearest(int p, int n) {
            if (!m.one(p)) return -1;
            if (n < 0 || n > 120) return -2;
            for (int off = 0; off < 2000; off++) {
                for (int w = 0; w < m.wineYear.size(); w++) {
                    if (m.bottles.get(w) > 0 && Math.abs(m.people.get(p).ageWith(m, w) - n) == off) return w;
                }
            }
            return -5;
        }

        int two() {
            for (int off = 0; off < 200; off++) {
                for (Person a : m.people) {
                    for (Person b : m.people) {
                        if (a.i < b.i && m.stage(a, a.has) > 0 && m.stage(b, b.has) > 0
                            && Math.abs(a.ageWith(m, a.has) - b.ageWith(m, b.has)) == off) return 10 * a.i + b.i;
                    }
                }
            }
            return -5;
        }

        int meet(int a, int b, int what) {
            if (!m.one(a) || !m.one(b) || what < 0 || what > 1) return -1;
            if (a == b) return -2;
            List<Integer> years = new ArrayList<>();
            Person p = m.people.get(a), q = m.people.get(b);
            for (int y = 0; y < 200; y++) {
                if (p.hereAt(p.drunk(m, y)) && q.hereAt(q.drunk(m, y))) years.add(y);
            }
            return manyOrFirst(years, what);
        }

        static int manyOrFirst(List<Integer> all, int what) {
            return what == 0 ? all.size() : all.isEmpty() ? -5 : all.get(0);
        }

        int seating(int aim, int set, int what) {
            if (what != 0 && (what < 10 || what >= 10 + m.people.size())) return -1;
            if (aim == 0 && (set < 0 || set >= 1 << m.people.size())) return -2;
            int[] best = m.best(aim, set);
            return best == null ? -6 : best[what == 0 ? 0 : what - 9];
        }

        int tell(List<int[]> rows, int most, int p, int age) {
            if (p == -1) {
                rows.clear();
                return 0;
            }
            if (!m.one(p)) return -1;
            if (age < -200 || age > 400) return -2;
            if (rows.size() == most) return -4;
            rows.add(new int[] {p, age});
            return rows.size();
        }

        int drank(int p) {
            if (!m.one(p)) return -1;
            int bits = m.asSeen(m.people.get(p), -1) ? 32 : 0;
            for (int w = 0; w < m.wineYear.size(); w++) {
                if (m.asSeen(m.people.get(p), w)) bits += 1 << w;
            }
            return bits;
        }

        int guess(int p, int what, boolean birth) {
            if (!m.one(p) || what < 0 || what > 1) return -1;
            List<Integer> all = new ArrayList<>();
            for (int n = 0; n < (birth ? 200 : 10); n++) {
                Person other = m.people.get(p).copy();
                if (birth) {
                    other.born = n;
                } else {
                    other.v = n;
                }
                if (m.asSeen(other, other.has)) all.add(n);
            }
            return manyOrFirst(all, what);
        }

        long odds(int p, int stage, int part) {
            if (!m.one(p) || stage < 0 || stage > 3 || part < 0 || part > 1) return Long.MIN_VALUE;
            int such = 0;
            for (int w = 0; w < m.wineYear.size(); w++) {
                for (int b = 0; b < m.bottles.get(w); b++) {
                    such += m.stage(m.people.get(p), w) == stage ? 1 : 0;
                }
            }
            return lowest(such, m.bottlesInAll(), part);
        }

        long mean(int part) {
            int sum = 0, many = 0;
            for (Person p : m.people) {
                if (m.stage(p, p.has) > 0) {
                    sum += p.ageWith(m, p.has);
                    many++;
                }
            }
            return part < 0 || part > 1 ? Long.MIN_VALUE : lowest(sum, many, part);
        }

        static long lowest(int above, int below, int part) {
            if (below == 0) return Long.MIN_VALUE;
            for (int d = below; d > 1; d--) {
                if (above % d == 0 && below % d == 0) return (part == 0 ? above : below) / d;
            }
            return part == 0 ? above : below;
        }

        int night(int what, int p, int w) {
            if (what == -1) {
                m.night.clear();
                return 0;
            }
            if (what < 0 || what > 2 || (what > 0 && !m.one(p)) || (what == 1 && !m.wine(w))) return -1;
            if (m.night.size() == 8) return -4;
            m.night.add(new int[] {what, p, w});
            return m.night.size();
        }

        int done(int what) {
            if (what < 0 || what > 1) return -1;
            Model then = m.copy();
            for (int[] r : m.night) {
                if (r[0] == 0) {
                    then.dawn();
                } else if (r[0] == 1) {
                    then.pour(r[1], r[2]);
                } else {
                    then.people.get(r[1]).has = -1;
                }
            }
            return what == 0 ? Integer.bitCount(then.hereBits()) : then.nerveOfAll();
        }

        int looked() {
            for (int i = 0; i < m.book.size(); i++) {
                if (of(m.book.get(i)[0], 5) != m.book.get(i)[1]) return i;
            }
            return -5;
        }

        int act(int p, int act, int x) {
            trace.clear();
            if (!m.one(p) || act < 0 || act > 2) return 0;
            Person one = m.people.get(p);
            one.ran = trace;
            return act == 0 ? one.drinks(x) : act == 1 ? one.ages(x) : one.tells(x);
        }

        int trace(int i) { return i < 0 || i >= Math.min(20, trace.size()) ? -1 : trace.get(i); }

        int as(int p, int k) {
            if (!m.one(p) || k < 0 || k > 6) return -1;
            return KINDS[k].isInstance(m.people.get(p)) ? m.people.get(p).v : -6;
        }

        int image() {
            image = m.copy();
            return m.people.size();
        }

        int undo() {
            if (image == null) return -3;
            m = image.copy();
            return m.people.size();
        }

        int count(int what) {
            if (what < 0 || what > 7) return -1;
            return new int[] {m.people.size(), m.villages.size(), m.seen.size(), m.night.size(), m.book.size(),
                m.tape.length(), trace.size(), m.wineYear.size()}[what];
        }
    }

    // ---- the runs

    static void same(String call, long got, long want) {
        if (got != want) {
            wrong++;
            if (wrong < 30) {
                System.out.println(call + " answered " + got + ", the model says " + want);
            }
        }
    }

    static String number(int bound) { return Integer.toString(next(bound)); }

    static String expression(int depth) {
        int way = next(depth > 3 ? 4 : 9);
        if (way == 4) return "!" + factor(depth + 1);
        if (way == 5) return "(" + expression(depth + 1) + ")";
        if (way == 6) return factor(depth + 1) + "&" + factor(depth + 1);
        if (way >= 7) return expression(depth + 1) + "|" + expression(depth + 1);
        return factor(9);
    }

    static String factor(int depth) {
        if (depth < 5 && next(3) == 0) return "!(" + expression(depth + 1) + ")";
        char letter = "pkvash".charAt(next(6));
        int most = letter == 'a' ? 13 : letter == 'v' || letter == 'h' ? 10 : letter == 's' ? 4 : 7;
        return letter + "" + "<=>".charAt(next(3)) + number(most);
    }

    static String clause() {
        int way = next(6);
        if (way == 0) return "grown " + number(40);
        if (way == 1) return "old " + number(100);
        return (next(3) > 0 ? "bold " : "meek ") + number(30) + " " + expression(0);
    }

    static String villageText() {
        StringBuilder text = new StringBuilder(clause());
        for (int i = next(6) == 0 ? 11 : next(4); i > 0; i--) {
            text.append(';').append(next(2) == 0 && text.length() > 40 ? "old " + number(99) : clause());
        }
        if (next(3) == 0) {
            int at = next(text.length());
            int way = next(3);
            if (way == 0) text.deleteCharAt(at);
            if (way == 1) text.insert(at, "01!( )&|;p=gobm/:".charAt(next(17)));
            if (way == 2) text.setCharAt(at, "01!( )&|;p=gobm/:".charAt(next(17)));
        }
        return text.length() > 100 && next(8) > 0 ? clause() : text.toString();
    }

    final DrunkByYear x = new DrunkByYear();
    final Table t = new Table();
    int calls = 0;

    /** A number of one of so many, seldom of none. */
    int some(int many) { return next(12) == 0 ? between(-2, many + 1) : many == 0 ? 0 : next(many); }

    int one() { return some(t.m.people.size()); }

    int oneWine() { return some(t.m.wineYear.size()); }

    int seatWhat() { return next(8) == 0 ? between(-1, 17) : next(3) == 0 ? 0 : 10 + one(); }

    int ageOfSome(int p) {
        if (next(12) == 0) return next(2) == 0 ? between(-202, -198) : between(398, 402);
        if (!t.m.one(p)) return 20;
        return t.m.people.get(p).ageWith(t.m, between(-1, t.m.wineYear.size() - 1)) + (next(6) == 0 ? 1 : 0);
    }

    void feedText(String text) {
        for (int i = 0; i < text.length() && calls < CALLS; i++) {
            int sign = text.charAt(i);
            same("feed " + sign, x.feed(sign), t.feed(sign));
            calls++;
        }
    }

    void build() {
        int way = next(9), a = oneWine(), b = oneWine(), p = one();
        if (way == 0) {
            int kind = some(7), v = some(10), born = next(9) == 0 ? between(-1, 200) : between(0, 130);
            int life = next(9) == 0 ? between(-1, 121) : between(30, 100);
            same("person", x.person(kind, v, born, life), t.person(kind, v, born, life));
        } else if (way == 1) {
            int year = next(5) == 0 ? between(-1, 200) : between(30, 150), n = next(9) == 0 ? between(-1, 100) : next(4);
            same("vintage", x.vintage(year, n), t.vintage(year, n));
        } else if (way == 2) {
            int k = some(4), n = some(10);
            same("row", x.row(p, k, n), t.row(p, k, n));
        } else if (way == 3) {
            int n = next(9) == 0 ? between(-1, 100) : next(5);
            same("stock", x.stock(a, n), t.stock(a, n));
        } else if (way == 4 || way == 5) {
            same("pour " + p + " " + a, x.pour(p, a), t.pour(p, a));
        } else if (way == 6) {
            same("dry", x.dry(p), t.dry(p));
        } else if (way == 7) {
            int n = next(4) > 0 ? between(-1, 3) : between(90, 101);
            if (n < 10 || next(6) == 0) same("dawn", x.dawn(n), t.dawn(n));
        } else if (next(3) == 0) {
            same("blend", x.blend(a, b), t.blend(a, b));
        }
    }

    void tell() {
        int way = next(9), p = one();
        if (way < 2) {
            int age = ageOfSome(p), who = next(10) == 0 ? -1 : p;
            same("see", x.see(who, age), t.tell(t.m.seen, 5, who, age));
        } else if (way < 4) {
            int age = next(4) > 0 ? t.of(p, 5) : ageOfSome(p), who = next(12) == 0 ? -1 : p;
            same("book", x.book(who, age), t.tell(t.m.book, 8, who, age));
        } else if (way < 6) {
            int what = next(12) == 0 ? between(-2, 4) : next(3), w = oneWine();
            same("night", x.night(what, p, w), t.night(what, p, w));
        } else if (way == 6) {
            int act = some(3), n = next(3) == 0 ? (int) (seed >>> 20) : between(-50, 50);
            same("act", x.act(p, act, n), t.act(p, act, n));
        } else if (way == 7 && next(3) == 0) {
            same("image", x.image(), t.image());
        } else if (next(3) == 0) {
            same("undo", x.undo(), t.undo());
        }
    }

    void ask() {
        int p = one(), q = one(), what = some(2), n;
        switch (next(18)) {
            case 0: n = some(9); same("of " + p + " " + n, x.of(p, n), t.of(p, n)); break;
            case 1: same("wine", x.wine(q, what), t.wine(q, what)); break;
            case 2: n = some(6); same("told " + n, x.told(n), t.told(n)); break;
            case 3: n = next(2) == 0 ? between(-1, 3) : between(0, 100); same("alive " + n, x.alive(n), t.alive(n)); break;
            case 4: same("brings", x.brings(p), t.brings(p)); break;
            case 5: n = between(-1, 121); same("nearest", x.nearest(p, n), t.nearest(p, n)); break;
            case 6: same("two", x.two(), t.two()); break;
            case 7: same("meet", x.meet(p, q, what), t.meet(p, q, what)); break;
            case 8: same("drank", x.drank(p), t.drank(p)); break;
            case 9: same("birth", x.birth(p, what), t.guess(p, what, true)); break;
            case 10: same("firm", x.firm(p, what), t.guess(p, what, false)); break;
            case 11: n = some(4); same("odds", x.odds(p, n, what), t.odds(p, n, what)); break;
            case 12: same("mean", x.mean(what), t.mean(what)); break;
            case 13: same("done", x.done(what), t.done(what)); break;
            case 14: same("looked", x.looked(), t.looked()); break;
            case 15: n = some(6); same("trace", x.trace(n), t.trace(n)); break;
            case 16: n = some(7); same("as", x.as(p, n), t.as(p, n)); break;
            default: n = some(8); same("count " + n, x.count(n), t.count(n));
        }
    }

    void seat() {
        int what = seatWhat(), people = t.m.people.size();
        int set = next(10) == 0 ? between(-1, 64) : next(3) == 0 ? t.m.hereBits() : next(1 << people);
        same("fewest " + set + " " + what, x.fewest(set, what), t.seating(0, set, what));
        same("close " + what, x.close(what), t.seating(1, 0, what));
        same("boldest " + what, x.boldest(what), t.seating(2, 0, what));
    }

    void settle() {
        String text = villageText();
        feedText(text);
        calls++;
        same("village " + text, x.village(), t.village());
    }

    /** People and vintages of which many can be here. */
    void fill(int people, int vintages) {
        calls += people + vintages;
        for (int p = 0; p < people; p++) {
            int kind = next(7), v = next(10), born = between(20, 110), life = between(40, 120);
            same("person", x.person(kind, v, born, life), t.person(kind, v, born, life));
        }
        for (int w = 0; w < vintages; w++) {
            int year = next(4) == 0 && w > 0 ? t.m.wineYear.get(w - 1) : between(60, 160), n = next(5);
            same("vintage", x.vintage(year, n), t.vintage(year, n));
        }
    }

    /** All of a seating, for a set that some seating could bring. */
    void seatAll() {
        int people = t.m.people.size(), set = 0;
        for (int p = 0; p < people; p++) {
            set |= t.m.stage(t.m.people.get(p), between(-1, t.m.wineYear.size() - 1)) > 0 ? 1 << p : 0;
        }
        int[][] best = {t.m.best(0, set), t.m.best(1, 0), t.m.best(2, 0)};
        for (int i = 0; i <= people; i++) {
            int what = i == 0 ? 0 : i + 9;
            same("fewest " + set + " " + what, x.fewest(set, what), best[0] == null ? -6 : best[0][i]);
            same("close " + what, x.close(what), best[1] == null ? -6 : best[1][i]);
            same("boldest " + what, x.boldest(what), best[2][i]);
        }
    }

    void run() {
        if (next(4) > 0) {
            fill(next(7), next(6));
        }
        while (calls < CALLS) {
            calls++;
            int way = next(40);
            if (way == 0) {
                settle();
            } else if (way < 14) {
                build();
            } else if (way < 20) {
                tell();
            } else if (way == 20 && next(3) == 0) {
                calls += 2;
                seat();
            } else {
                ask();
            }
        }
    }

    public static void main(String[] args) {
        for (int i = 0; i < RUNS; i++) {
            new ModelTest().run();
        }
        for (int i = 0; i < SEATED; i++) {
            ModelTest test = new ModelTest();
            test.fill(between(2, 6), between(1, 5));
            if (i % 2 == 0) {
                test.settle();
            }
            test.seatAll();
        }
        for (int i = 0; i < TEXTS; i++) {
            String text = villageText();
            if (text.length() <= 100) {
                DrunkByYear x = new DrunkByYear();
                for (int j = 0; j < text.length(); j++) {
                    x.feed(text.charAt(j));
                }
                int fault = faultOf(text);
                same("village " + text, x.village(), fault < 0 ? 0 : -10 - fault);
            }
        }
        System.out.println(wrong == 0 ? "the model says all the same" : wrong + " answers differ from the model's");
        if (wrong != 0) System.exit(1);
    }
}
