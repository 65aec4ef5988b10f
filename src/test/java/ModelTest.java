import java.math.BigInteger;
import java.util.ArrayList;
import java.util.Arrays;
import java.util.HashMap;
import java.util.List;
import java.util.Map;
import java.util.Random;

/**
 * Random runs of calls on OneBullet and on a second, plain model of the document that shares no code and no way of
 * working with it: trees instead of steps, whole copies instead of rows, all permutations instead of a search.
 */
public final class ModelTest {
    static final int NONE = -1;

    static final class Broken extends RuntimeException {
        private static final long serialVersionUID = 1L;
        Broken() { super(null, null, false, false); }
    }

    static final class Fault extends RuntimeException {
        private static final long serialVersionUID = 1L;
        final int where;
        Fault(int where) { super(null, null, false, false); this.where = where; }
    }

    interface Sum { long of(Map<String, Integer> words); }

    interface Test { boolean of(Map<String, Integer> words); }

    static final class Clause {
        String head;
        Sum one, two;
        int times = 1;
        Test test;
    }

    static long inBounds(long v) {
        if (Math.abs(v) > 1_000_000_000L) throw new Broken();
        return v;
    }

    // ---- the languages ----

    static final class Parser {
        final String text;
        final boolean orders;
        final List<String> tokens = new ArrayList<>();
        final List<Integer> places = new ArrayList<>();
        int i = 0, parts = 0, open = 0;

        Parser(String text, boolean orders) {
            this.text = text;
            this.orders = orders;
            java.util.regex.Matcher m = java.util.regex.Pattern.compile("[a-z]+|[0-9]+|[^ ]", java.util.regex.Pattern.DOTALL).matcher(text);
            while (m.find()) { tokens.add(m.group()); places.add(m.start()); }
            tokens.add("");
            places.add(text.length());
        }

        String peek() { return tokens.get(i); }
        Fault fault() { return new Fault(places.get(i)); }
        void must(String t) { if (!peek().equals(t)) throw fault(); i++; }
        boolean may(String t) { if (!peek().equals(t)) return false; i++; return true; }

        List<Clause> all() {
            List<Clause> out = new ArrayList<>();
            do {
                if (out.size() == 12) throw fault();
                out.add(clause());
            } while (may(";"));
            if (!peek().isEmpty()) throw fault();
            return out;
        }

        Clause clause() {
            Clause c = new Clause();
            c.head = peek();
            List<String> heads = orders ? List.of("fire", "duel", "rest") : List.of("aims", "wears", "flattens", "prices", "bars");
            if (!heads.contains(c.head)) throw fault();
            i++;
            if (!c.head.equals("bars")) c.one = sum();
            if (c.head.equals("fire")) { must("at"); c.two = sum(); }
            if (c.head.equals("duel")) { must("by"); c.two = sum(); }
            if (orders && may("times")) c.times = number(1, 20);
            if (may("if")) c.test = test();
            return c;
        }

        int number(int low, int high) {
            if (!peek().matches("[0-9]+")) throw fault();
            BigInteger v = new BigInteger(peek());
            if (v.compareTo(BigInteger.valueOf(low)) < 0 || v.compareTo(BigInteger.valueOf(high)) > 0) throw fault();
            i++;
            return v.intValue();
        }

        Test test() {
            Test left = both();
            if (!may("or")) return left;
            Test right = test();
            return w -> left.of(w) || right.of(w);
        }

        Test both() {
            Test left = plain();
            if (!may("and")) return left;
            Test right = both();
            return w -> left.of(w) && right.of(w);
        }

        void opens(String t) {
            if (open == 8) throw fault();
            open++;
            must(t);
        }

        Test plain() {
            if (may("not")) { Test t = plain(); return w -> !t.of(w); }
            if (peek().equals("(")) {
                opens("(");
                Test t = test();
                must(")");
                open--;
                return t;
            }
            Sum a = sum();
            String op = peek();
            if (!List.of("<", ">", "=").contains(op)) throw fault();
            i++;
            Sum b = sum();
            return w -> {
                long x = a.of(w), y = b.of(w);
                return op.equals("<") ? x < y : op.equals(">") ? x > y : x == y;
            };
        }

        Sum sum() {
            Sum s = term();
            while (peek().equals("+") || peek().equals("-")) {
                boolean plus = tokens.get(i++).equals("+");
                Sum a = s, b = term();
                s = w -> inBounds(plus ? a.of(w) + b.of(w) : a.of(w) - b.of(w));
            }
            return s;
        }

        Sum term() {
            Sum s = part();
            while (List.of("*", "/", "%").contains(peek())) {
                String op = tokens.get(i++);
                Sum a = s, b = part();
                s = w -> {
                    long x = a.of(w), y = b.of(w);
                    if (op.equals("*")) return inBounds(x * y);
                    if (y == 0) throw new Broken();
                    return op.equals("/") ? x / y : x % y;
                };
            }
            return s;
        }

        Sum part() {
            if (peek().equals("[")) {
                opens("[");
                Sum s = sum();
                must("]");
                open--;
                return s;
            }
            if (parts == 50) throw fault();
            parts++;
            if (peek().matches("[0-9]+")) { int v = number(0, 1000); return w -> v; }
            String word = peek();
            List<String> words = orders ? List.of("now", "weight", "flat", "rust", "done", "ended", "hurt", "dents")
                : List.of("person", "aim", "place", "kind", "hard", "dents", "weight", "flat", "rust", "day", "mood");
            if (!words.contains(word)) throw fault();
            i++;
            String key = !orders ? word : word.equals("hurt") ? "hurt" + number(0, 9) : word.equals("dents") ? "dents" + number(0, 11) : word;
            return w -> w.get(key);
        }
    }

    // ---- the province ----

    static final class State {
        int weight = 100, flat = 0, rust = 0;
        boolean lost = false;
        int[] terms = {0, 2, 20, 1, 0};
        int[] lead = {0, 0};
        List<int[]> places = new ArrayList<>();   // kind, hard, deep, dents
        List<int[]> people = new ArrayList<>();   // aim, court, hurt
        List<int[]> quarrels = new ArrayList<>(); // first, second, place, due
        List<Integer> log = new ArrayList<>();
        List<List<Clause>> laws = new ArrayList<>();
        int force = NONE;

        State copy() {
            State s = new State();
            s.weight = weight; s.flat = flat; s.rust = rust; s.lost = lost;
            s.terms = terms.clone();
            s.lead = lead.clone();
            for (int[] p : places) s.places.add(p.clone());
            for (int[] p : people) s.people.add(p.clone());
            for (int[] q : quarrels) s.quarrels.add(q.clone());
            s.log.addAll(log);
            s.laws.addAll(laws);
            s.force = force;
            return s;
        }

        boolean can() { return !lost && weight >= terms[2]; }
        boolean hurt(int p) { return terms[0] < people.get(p)[2]; }

        void pass(int days) {
            int to = Math.min(999, terms[0] + days);
            rust = Math.min(99, rust + to - terms[0]);
            terms[0] = to;
        }

        void log(int t) { log.add(t); if (log.size() > 24) log.remove(0); }

        Integer told(String head, int person, int place) {
            if (force == NONE) return null;
            Map<String, Integer> w = new HashMap<>();
            int[] p = places.get(place);
            w.put("person", person);
            w.put("aim", person < 0 ? -1 : people.get(person)[0]);
            w.put("place", place); w.put("kind", p[0]); w.put("hard", p[1]); w.put("dents", p[3]);
            w.put("weight", weight); w.put("flat", flat); w.put("rust", rust);
            w.put("day", terms[0]); w.put("mood", terms[4]);
            Integer told = null;
            for (Clause c : laws.get(force)) {
                if (!c.head.equals(head)) continue;
                try {
                    int v = c.one == null ? 1 : (int) c.one.of(w);
                    if (c.test == null || c.test.of(w)) told = v;
                } catch (Broken b) { continue; }
            }
            return told;
        }

        int within(Integer told, int most, int without) { return told == null ? without : Math.min(most, Math.max(0, told)); }
        int aims(int person, int place) { return within(told("aims", person, place), 10, people.get(person)[0]); }
        int wears(int place) { return within(told("wears", -1, place), 99, places.get(place)[1] / 10); }
        int flattens(int place) { return within(told("flattens", -1, place), 99, places.get(place)[1] / 20); }
        int worth(int place) { return within(told("prices", -1, place), 9999, places.get(place)[3] * 10); }
        boolean barred(int person, int place) { return told("bars", person, place) != null; }

        void shot(int place) {
            int wear = wears(place), flattening = flattens(place);
            weight = Math.max(0, weight - wear);
            flat = Math.min(99, flat + flattening);
            int[] p = places.get(place);
            p[3]++;
            log(place);
            if (p[0] == 2) lost = true; else pass((int) Math.ceil((double) p[2] / terms[3]));
        }

        void shotBy(int person, int place) {
            int was = weight;
            shot(place);
            lead[people.get(person)[1]] += was - weight;
        }

        boolean canHave(int q) {
            int[] x = quarrels.get(q);
            for (int k = 0; k < 2; k++) if (hurt(x[k]) || barred(x[k], x[2])) return false;
            return can();
        }

        int duel(int q, Draws draws) {
            int[] x = quarrels.remove(q);
            for (int round = 0; round < terms[1]; round++) {
                for (int k = 0; k < 2; k++) {
                    if (!can()) return 3;
                    int other = x[1 - k];
                    if (draws.draw(10) < aims(x[k], x[2])) {
                        people.get(other)[2] = terms[0] + 7;
                        log(12 + other);
                        return k + 1;
                    }
                    shotBy(x[k], x[2]);
                }
            }
            return 0;
        }
    }

    static final class Draws {
        long s;
        Draws(long s) { this.s = s; }
        int draw(int m) { s = (s * 1103 + 12345) % 1000003; return (int) (s % m); }
    }

    static final class Model {
        State now = new State();
        StringBuilder tape = new StringBuilder();
        List<State> past = new ArrayList<>();
        List<Integer> kinds = new ArrayList<>();
        State[] images = new State[2];
        int fault = NONE, stopped = NONE, chips = 0, status = 0;
        int[] refused = new int[7];
        State season = null;

        int no(int code) { status = code; refused[-code]++; return code; }
        int yes(int v) { status = 0; return v; }
        int anew(int v) { past.clear(); kinds.clear(); return yes(v); }
        static boolean in(int v, int low, int high) { return v >= low && v <= high; }
        boolean place(int p) { return in(p, 0, now.places.size() - 1); }
        boolean person(int p) { return in(p, 0, now.people.size() - 1); }
        boolean quarrel(int q) { return in(q, 0, now.quarrels.size() - 1); }

        int call(String name, int... a) {
            switch (name) {
                case "put": {
                    if (!in(a[0], 0, 2) || !in(a[1], 0, a[0] == 0 ? 999 : 99)) return no(-1);
                    int was = a[0] == 0 ? now.weight : a[0] == 1 ? now.flat : now.rust;
                    if (a[0] == 0) now.weight = a[1]; else if (a[0] == 1) now.flat = a[1]; else now.rust = a[1];
                    return anew(was);
                }
                case "bullet":
                    return a[0] == 0 ? now.weight : a[0] == 1 ? now.flat : a[0] == 2 ? now.rust : a[0] == 3 ? (now.lost ? 1 : 0)
                        : a[0] == 4 ? (now.can() ? 1 : 0) : a[0] == 5 && !now.log.isEmpty() ? now.log.get(now.log.size() - 1) : NONE;
                case "place":
                    if (!isPlace(a[0], a[1], a[2])) return no(-1);
                    if (now.places.size() == 12) return no(-5);
                    now.places.add(new int[] {a[0], a[1], a[2], 0});
                    return anew(now.places.size() - 1);
                case "at":
                    if (!place(a[0]) || !in(a[1], 0, 6)) return NONE;
                    return a[1] < 4 ? now.places.get(a[0])[a[1]] : a[1] == 4 ? now.wears(a[0]) : a[1] == 5 ? now.flattens(a[0]) : now.worth(a[0]);
                case "person":
                    if (!in(a[0], 0, 10) || !in(a[1], 0, 1)) return no(-1);
                    if (now.people.size() == 10) return no(-5);
                    now.people.add(new int[] {a[0], a[1], 0});
                    return anew(now.people.size() - 1);
                case "of":
                    if (!person(a[0]) || a[1] < 0) return NONE;
                    if (a[1] < 3) return now.people.get(a[0])[a[1]];
                    if (a[1] == 3) return now.hurt(a[0]) ? 1 : 0;
                    return place(a[1] - 4) ? now.aims(a[0], a[1] - 4) : NONE;
                case "quarrel":
                    if (a[0] == a[1] || !in(a[3], 0, 999)) return no(-1);
                    if (!person(a[0]) || !person(a[1]) || !place(a[2])) return no(-2);
                    if (now.quarrels.size() == 7) return no(-5);
                    now.quarrels.add(a.clone());
                    return anew(now.quarrels.size() - 1);
                case "about":
                    if (!quarrel(a[0]) || !in(a[1], 0, 4)) return NONE;
                    return a[1] < 4 ? now.quarrels.get(a[0])[a[1]] : now.canHave(a[0]) ? 1 : 0;
                case "terms": {
                    int[] low = {0, 1, 1, 1, 0}, high = {999, 4, 99, 9, 9};
                    if (!in(a[0], 0, 4) || !in(a[1], low[a[0]], high[a[0]])) return no(-1);
                    int was = now.terms[a[0]];
                    now.terms[a[0]] = a[1];
                    return anew(was);
                }
                case "feed":
                    if (tape.length() + 20 > 400) return NONE;
                    for (int v : a) for (int k = 3; k >= 0; k--) tape.append((char) ((v >>> (8 * k)) & 255));
                    return tape.length();
                case "end":
                    if (!in(a[0], 0, tape.length())) return NONE;
                    tape.setLength(a[0]);
                    return a[0];
                case "row": return row();
                case "chips": return chips;
                case "law": return law();
                case "orders": return orders();
                case "fault": return fault;
                case "stopped": return stopped;
                case "force": {
                    if (!in(a[0], -1, now.laws.size() - 1)) return no(-2);
                    int was = now.force;
                    now.force = a[0];
                    return yes(was);
                }
                case "barred": return person(a[0]) && place(a[1]) ? (now.barred(a[0], a[1]) ? 1 : 0) : NONE;
                case "fire": case "duel": case "rest": {
                    int r = deed(name, a);
                    return r < 0 ? no(r) : yes(r);
                }
                case "undo": {
                    if (past.isEmpty()) return no(-3);
                    State was = past.remove(past.size() - 1);
                    was.laws = now.laws;
                    was.force = now.force;
                    now = was;
                    return yes(kinds.remove(kinds.size() - 1));
                }
                case "log": return in(a[0], 0, now.log.size() - 1) ? now.log.get(a[0]) : NONE;
                case "odds": return quarrel(a[0]) && in(a[1], 0, 3) ? odds(a[0], a[1]) : NONE;
                case "queue": return queue(a[0]);
                case "spades":
                    for (int k = 1; k <= 9; k++) {
                        State s = now.copy();
                        s.terms[3] = k;
                        if (!rows(s).isEmpty()) return k;
                    }
                    return NONE;
                case "free": return free(a[0]);
                case "marks": return marks(a[0], a[1], a[2], a[3]);
                case "game": return game(a[0]);
                case "share": {
                    int all = now.lead[0] + now.lead[1];
                    if (!in(a[0], 0, 1) || !in(a[1], 0, 1) || all == 0) return NONE;
                    int g = BigInteger.valueOf(all).gcd(BigInteger.valueOf(now.lead[a[0]])).intValue();
                    return (a[1] == 0 ? now.lead[a[0]] : all) / g;
                }
                case "season": return season(a[0], a[1]);
                case "drawn":
                    if (season == null || !in(a[0], 0, 5)) return NONE;
                    return new int[] {season.weight, season.flat, season.rust, season.lost ? 1 : 0, season.terms[0], season.quarrels.size()}[a[0]];
                case "image":
                    if (!in(a[0], 0, 1)) return no(-1);
                    images[a[0]] = now.copy();
                    return yes(0);
                case "back":
                    if (!in(a[0], 0, 1)) return no(-1);
                    if (images[a[0]] == null) return no(-2);
                    now = images[a[0]].copy();
                    return anew(0);
                case "count": return count(a[0]);
                case "status": return status;
                default: throw new IllegalStateException(name);
            }
        }

        static boolean isPlace(int kind, int hard, int deep) { return in(kind, 0, 3) && in(hard, 0, 99) && in(deep, 0, 20); }

        int count(int what) {
            switch (what) {
                case 0: return now.places.size();
                case 1: return now.people.size();
                case 2: return now.quarrels.size();
                case 3: return now.log.size();
                case 4: return now.laws.size();
                case 5: return past.size();
                case 6: return tape.length();
                case 7: return refused[1];
                case 8: return refused[2];
                case 9: return refused[3];
                case 10: return refused[5];
                case 11: return refused[6];
                case 12: return now.force;
                case 13: case 14: case 15: case 16: case 17: return now.terms[what - 13];
                case 18: case 19: return now.lead[what - 18];
                default: return NONE;
            }
        }

        int row() {
            if (tape.length() == 0) return no(-6);
            int came = 0;
            chips = 0;
            for (int k = 0; k < tape.length(); k += 3) {
                if (k + 2 < tape.length() && now.places.size() < 12 && isPlace(tape.charAt(k), tape.charAt(k + 1), tape.charAt(k + 2))) {
                    now.places.add(new int[] {tape.charAt(k), tape.charAt(k + 1), tape.charAt(k + 2), 0});
                    came++;
                } else chips++;
            }
            tape.setLength(0);
            return anew(came);
        }

        List<Clause> read(boolean orders) {
            String text = tape.toString();
            tape.setLength(0);
            fault = NONE;
            try {
                return new Parser(text, orders).all();
            } catch (Fault f) {
                fault = f.where;
                return null;
            }
        }

        int law() {
            if (now.laws.size() == 6) { tape.setLength(0); return no(-5); }
            List<Clause> law = read(false);
            if (law == null) return no(-6);
            now.laws.add(law);
            return yes(now.laws.size() - 1);
        }

        int deed(String name, int... a) {
            State before = now.copy();
            int kind, answer;
            if (name.equals("fire")) {
                if (!person(a[0]) || !place(a[1])) return -2;
                if (now.hurt(a[0]) || now.barred(a[0], a[1]) || !now.can()) return -3;
                now.shotBy(a[0], a[1]);
                kind = 0;
                answer = now.weight;
            } else if (name.equals("duel")) {
                if (!in(a[1], 0, 1000000)) return -1;
                if (!quarrel(a[0])) return -2;
                if (!now.canHave(a[0])) return -3;
                kind = 1;
                answer = now.duel(a[0], new Draws(a[1]));
            } else {
                if (!in(a[0], 1, 99)) return -1;
                now.pass(a[0]);
                kind = 2;
                answer = now.terms[0];
            }
            past.add(before);
            kinds.add(kind);
            if (past.size() > 16) { past.remove(0); kinds.remove(0); }
            return answer;
        }

        int orders() {
            stopped = NONE;
            List<Clause> text = read(true);
            if (text == null) return no(-6);
            State before = now.copy();
            List<State> pastBefore = new ArrayList<>(past);
            List<Integer> kindsBefore = new ArrayList<>(kinds);
            int done = 0, ended = -1;
            for (int c = 0; c < text.size(); c++) {
                Clause clause = text.get(c);
                for (int t = 0; t < clause.times; t++) {
                    Map<String, Integer> w = new HashMap<>();
                    w.put("now", now.terms[0]); w.put("weight", now.weight); w.put("flat", now.flat); w.put("rust", now.rust);
                    w.put("done", done); w.put("ended", ended);
                    for (int p = 0; p < 10; p++) w.put("hurt" + p, person(p) ? now.people.get(p)[2] : -1);
                    for (int p = 0; p < 12; p++) w.put("dents" + p, place(p) ? now.places.get(p)[3] : -1);
                    try {
                        if (clause.test != null && !clause.test.of(w)) continue;
                    } catch (Broken b) { continue; }
                    int r;
                    try {
                        int one = (int) clause.one.of(w);
                        r = clause.two == null ? deed(clause.head, one) : deed(clause.head, one, (int) clause.two.of(w));
                    } catch (Broken b) { r = -3; }
                    if (r < 0) {
                        now = before;
                        past = pastBefore;
                        kinds = kindsBefore;
                        stopped = c;
                        return no(-3);
                    }
                    done++;
                    if (clause.head.equals("duel")) ended = r;
                }
            }
            return yes(done);
        }

        int odds(int q, int what) {
            long[] ends = new long[4];
            State s = now.copy();
            walk(s, s.quarrels.get(q), 0, 100_000_000L, ends);
            return (int) ends[what];
        }

        void walk(State s, int[] x, int shot, long share, long[] ends) {
            if (shot == 2 * s.terms[1]) { ends[0] += share; return; }
            if (!s.can()) { ends[3] += share; return; }
            long hit = share * s.aims(x[shot % 2], x[2]) / 10;
            ends[1 + shot % 2] += hit;
            s.shot(x[2]);
            walk(s, x, shot + 1, share - hit, ends);
        }

        // every row that can be had, with the WEIGHT left as its last number, in order
        List<int[]> rows(State start) {
            List<int[]> out = new ArrayList<>();
            permute(start, new ArrayList<>(), out);
            return out;
        }

        void permute(State s, List<Integer> row, List<int[]> out) {
            int n = s.quarrels.size();
            if (row.size() == n) {
                int[] r = new int[n + 1];
                for (int k = 0; k < n; k++) r[k] = row.get(k);
                r[n] = s.weight;
                out.add(r);
                return;
            }
            for (int q = 0; q < n; q++) {
                if (row.contains(q)) continue;
                State t = s.copy();
                int[] x = t.quarrels.get(q);
                boolean good = t.can();
                for (int k = 0; k < 2 * t.terms[1] && good; k++) {
                    good = t.can();
                    if (good) t.shot(x[2]);
                }
                if (!good || t.lost || t.terms[0] > x[3]) continue;
                List<Integer> more = new ArrayList<>(row);
                more.add(q);
                permute(t, more, out);
            }
        }

        int queue(int what) {
            List<int[]> rows = rows(now);
            int n = now.quarrels.size();
            if (what == 0) return rows.size();
            if (rows.isEmpty()) return NONE;
            int[] best = rows.get(0);
            for (int[] r : rows) if (r[n] > best[n]) best = r;
            if (what == 21) return best[n];
            if (in(what, 1, n)) return rows.get(0)[what - 1];
            return in(what, 11, 10 + n) ? best[what - 11] : NONE;
        }

        int free(int what) {
            if (!in(what, 0, 1)) return NONE;
            int n = now.quarrels.size(), most = -1, which = 0;
            for (int bits = 0; bits < 1 << n; bits++) {
                List<Integer> people = new ArrayList<>();
                for (int q = 0; q < n; q++) if ((bits >> q & 1) == 1) { people.add(now.quarrels.get(q)[0]); people.add(now.quarrels.get(q)[1]); }
                boolean twice = people.stream().distinct().count() < people.size();
                if (!twice && people.size() / 2 > most) { most = people.size() / 2; which = bits; }
            }
            return what == 0 ? most : which;
        }

        int marks(int n, int weight, int flat, int i) {
            if (!in(n, 1, 3) || !in(i, -1, n - 1) || !in(weight, 0, 999) || !in(flat, 0, 99)) return NONE;
            int m = now.places.size(), all = (int) Math.pow(m, n), count = 0;
            int[] first = null;
            for (int code = 0; code < all; code++) {
                int[] row = new int[n];
                for (int k = n - 1, c = code; k >= 0; k--, c /= m) row[k] = c % m;
                State s = now.copy();
                s.lost = false;
                boolean good = true;
                for (int p : row) {
                    good = good && s.weight >= 1 && s.places.get(p)[0] != 2;
                    if (good) s.shot(p);
                }
                if (good && s.weight == weight && s.flat == flat) {
                    count++;
                    if (first == null) first = row;
                }
            }
            return i == -1 ? count : first == null ? NONE : first[i];
        }

        int game(int what) {
            if (!now.can() || !in(what, 0, 2)) return NONE;
            Map<Integer, Boolean> memo = new HashMap<>();
            int count = 0, lowest = NONE;
            for (int p = now.places.size() - 1; p >= 0; p--) {
                if (now.places.get(p)[0] == 2 || now.wears(p) == 0) continue;
                int left = now.weight - now.wears(p);
                if (left >= now.terms[2] && !wins(left, memo)) { count++; lowest = p; }
            }
            return what == 0 ? (count > 0 ? 1 : 0) : what == 1 ? count : lowest;
        }

        boolean wins(int weight, Map<Integer, Boolean> memo) {
            Boolean known = memo.get(weight);
            if (known != null) return known;
            State s = now.copy();
            s.weight = weight;
            boolean wins = false;
            for (int p = 0; p < s.places.size() && !wins; p++) {
                int wear = s.wears(p);
                if (s.places.get(p)[0] != 2 && wear > 0 && weight - wear >= s.terms[2]) wins = !wins(weight - wear, memo);
            }
            memo.put(weight, wins);
            return wins;
        }

        int season(int seed, int n) {
            if (!in(seed, 0, 1000000) || !in(n, 1, 30)) return no(-1);
            State s = now.copy();
            Draws draws = new Draws(seed);
            int hits = 0;
            for (int k = 0; k < n; k++) {
                int q = s.quarrels.isEmpty() ? -1 : draws.draw(s.quarrels.size());
                if (q < 0 || !s.canHave(q)) { s.pass(3); continue; }
                int end = s.duel(q, draws);
                if (end == 1 || end == 2) hits++;
            }
            season = s;
            return yes(hits);
        }
    }

    // ---- random texts ----

    static final class Writer {
        final Random r;
        final boolean orders;
        int parts = 0;
        Writer(Random r, boolean orders) { this.r = r; this.orders = orders; }
        String gap() { return r.nextInt(3) == 0 ? "" : r.nextInt(8) == 0 ? "  " : " "; }
        String pick(String... of) { return of[r.nextInt(of.length)]; }

        String part(int deep) {
            if (deep < 9 && r.nextInt(6) == 0) return "[" + gap() + sum(deep + 1) + gap() + "]";
            parts++;
            int k = r.nextInt(10);
            if (k < 5) return "" + (r.nextInt(12) == 0 ? r.nextInt(1100) : r.nextInt(12));
            if (!orders) return pick("person", "aim", "place", "kind", "hard", "dents", "weight", "flat", "rust", "day", "mood");
            String w = pick("now", "weight", "flat", "rust", "done", "ended", "hurt", "dents");
            return w.equals("hurt") ? w + gap() + r.nextInt(r.nextInt(20) == 0 ? 12 : 10) : w.equals("dents") ? w + gap() + r.nextInt(r.nextInt(20) == 0 ? 14 : 12) : w;
        }

        String chain(int n, java.util.function.Supplier<String> item, String... ops) {
            StringBuilder b = new StringBuilder(item.get());
            for (int k = 0; k < n; k++) b.append(ops[0].length() > 1 ? " " : gap()).append(pick(ops)).append(ops[0].length() > 1 ? " " : gap()).append(item.get());
            return b.toString();
        }

        String term(int deep) { return chain(r.nextInt(4) / 2, () -> part(deep), "*", "/", "%"); }
        String sum(int deep) { return chain(r.nextInt(5) / 3, () -> term(deep), "+", "-"); }

        String plain(int deep) {
            int k = r.nextInt(8);
            if (k == 0) return "not " + plain(deep + 1);
            if (k == 1 && deep < 9) return "(" + gap() + test(deep + 1) + gap() + ")";
            return sum(deep) + gap() + pick("<", ">", "=") + gap() + sum(deep);
        }

        String both(int deep) { return chain(r.nextInt(5) / 4, () -> plain(deep), "and"); }
        String test(int deep) { return chain(r.nextInt(5) / 4, () -> both(deep), "or"); }

        String clause() {
            String c;
            if (!orders) {
                c = pick("aims", "wears", "flattens", "prices", "bars");
                if (!c.equals("bars")) c += " " + sum(0);
            } else {
                int k = r.nextInt(3);
                String one = r.nextInt(4) > 0 ? "" + r.nextInt(4) : sum(0), two = r.nextInt(4) > 0 ? "" + r.nextInt(5) : sum(0);
                c = k == 0 ? "fire " + one + " at " + two : k == 1 ? "duel " + one + " by " + two : "rest " + one;
                if (r.nextInt(3) == 0) c += " times " + (r.nextInt(10) == 0 ? r.nextInt(23) : 1 + r.nextInt(4));
            }
            if (r.nextInt(5) < 2) c += " if " + test(0);
            return c;
        }

        String text() {
            int n = r.nextInt(25) == 0 ? 13 : r.nextInt(4);
            StringBuilder b = new StringBuilder(gap() + clause());
            for (int k = 0; k < n; k++) b.append(gap()).append(";").append(gap()).append(clause());
            b.append(gap());
            String s = b.toString();
            if (r.nextInt(6) == 0) s = spoil(s);
            return s.length() > 400 ? s.substring(0, 400) : s;
        }

        String spoil(String s) {
            int at = r.nextInt(s.length() + 1);
            String junk = pick("", " ", ";", "(", ")", "[", "]", "+", "not ", " if ", "1", "9999999999999", "x", "<", "\t", "\u00e9", "A", " or ", " and ", " times 3");
            int to = Math.min(s.length(), at + r.nextInt(3));
            return s.substring(0, at) + junk + s.substring(to);
        }
    }

    // ---- runs ----

    static int calls = 0;

    static int real(OneBullet x, String name, int... a) {
        switch (name) {
            case "put": return x.put(a[0], a[1]);
            case "bullet": return x.bullet(a[0]);
            case "place": return x.place(a[0], a[1], a[2]);
            case "at": return x.at(a[0], a[1]);
            case "person": return x.person(a[0], a[1]);
            case "of": return x.of(a[0], a[1]);
            case "quarrel": return x.quarrel(a[0], a[1], a[2], a[3]);
            case "about": return x.about(a[0], a[1]);
            case "terms": return x.terms(a[0], a[1]);
            case "feed": return x.feed(a[0], a[1], a[2], a[3], a[4]);
            case "end": return x.end(a[0]);
            case "row": return x.row();
            case "chips": return x.chips();
            case "law": return x.law();
            case "orders": return x.orders();
            case "fault": return x.fault();
            case "stopped": return x.stopped();
            case "force": return x.force(a[0]);
            case "barred": return x.barred(a[0], a[1]);
            case "fire": return x.fire(a[0], a[1]);
            case "duel": return x.duel(a[0], a[1]);
            case "rest": return x.rest(a[0]);
            case "undo": return x.undo();
            case "log": return x.log(a[0]);
            case "odds": return x.odds(a[0], a[1]);
            case "queue": return x.queue(a[0]);
            case "spades": return x.spades();
            case "free": return x.free(a[0]);
            case "marks": return x.marks(a[0], a[1], a[2], a[3]);
            case "game": return x.game(a[0]);
            case "share": return x.share(a[0], a[1]);
            case "season": return x.season(a[0], a[1]);
            case "drawn": return x.drawn(a[0]);
            case "image": return x.image(a[0]);
            case "back": return x.back(a[0]);
            case "count": return x.count(a[0]);
            default: return x.status();
        }
    }

    static final class Run {
        final Random r;
        final OneBullet x = new OneBullet();
        final Model m = new Model();
        final StringBuilder story = new StringBuilder();
        int made = 0;
        final int size;
        boolean good = true;
        final Map<String, Integer> hits;

        Run(long seed, int size, Map<String, Integer> hits) { r = new Random(seed); this.size = size; this.hits = hits; }

        int go(String name, int... a) {
            if (!good) return 0;
            calls++;
            made++;
            int want = m.call(name, a), got = real(x, name, a);
            story.append(name).append(Arrays.toString(a)).append(" = ").append(got).append('\n');
            hits.merge(name + (want < 0 ? want : "+"), 1, Integer::sum);
            if (want != got) {
                good = false;
                System.out.println(story);
                System.out.println("the last one should be " + want);
            }
            return want;
        }

        int wild(int low, int high) {
            int k = r.nextInt(40);
            return k == 0 ? low - 1 : k == 1 ? high + 1 : k == 2 ? r.nextInt() : low + r.nextInt(high - low + 1);
        }

        int aPlace() { return wild(0, Math.max(0, m.now.places.size() - 1)); }
        int aPerson() { return wild(0, Math.max(0, m.now.people.size() - 1)); }
        int aQuarrel() { return wild(0, Math.max(0, m.now.quarrels.size() - 1)); }

        void text(String s) {
            byte[] b = new byte[(s.length() + 19) / 20 * 20];
            Arrays.fill(b, (byte) ' ');
            for (int k = 0; k < s.length(); k++) b[k] = (byte) s.charAt(k);
            int had = m.tape.length();
            for (int k = 0; k < b.length; k += 20) {
                int[] v = new int[5];
                for (int j = 0; j < 20; j++) v[j / 4] = v[j / 4] << 8 | b[k + j] & 255;
                go("feed", v);
            }
            go("end", had + s.length());
        }

        void change() {
            switch (r.nextInt(22)) {
                case 0: if (r.nextInt(3) == 0) go("put", wild(0, 2), wild(0, 99)); break;
                case 1: if (r.nextInt(3) > 0) go("place", wild(0, 3), wild(0, 99), wild(0, r.nextInt(2) == 0 ? 3 : 20)); break;
                case 2: go("person", wild(0, 10), wild(0, 1)); break;
                case 3: case 4: go("quarrel", aPerson(), aPerson(), aPlace(), wild(0, r.nextBoolean() ? 999 : 200)); break;
                case 5: {
                    int what = wild(0, 4);
                    int[] high = {999, 4, 99, 9, 9};
                    if (r.nextInt(3) == 0) go("terms", what, wild(what >= 1 && what <= 3 ? 1 : 0, what >= 0 && what <= 4 ? high[what] : 3));
                    break;
                }
                case 6: case 7: text(new Writer(r, false).text()); go("law"); go("fault"); break;
                case 8: case 9: text(new Writer(r, true).text()); go("orders"); go("fault"); go("stopped"); break;
                case 10: go("force", wild(-1, Math.max(0, m.now.laws.size() - 1))); break;
                case 11: case 12: case 13: go("fire", aPerson(), aPlace()); break;
                case 14: case 15: go("duel", aQuarrel(), wild(0, 1000000)); break;
                case 16: go("rest", wild(1, 99)); break;
                case 17: for (int k = r.nextInt(4); k >= 0; k--) go("undo"); break;
                case 18: go("season", wild(0, 1000000), wild(1, 30)); break;
                case 19: go("image", wild(0, 1)); break;
                case 20: if (r.nextInt(3) == 0) go("back", wild(0, 1)); break;
                default:
                    if (r.nextInt(4) == 0) {
                        int[] v = new int[5];
                        for (int k = 0; k < 5; k++) v[k] = r.nextInt(4) << 24 | r.nextInt(110) << 16 | r.nextInt(22) << 8 | r.nextInt(4);
                        go("feed", v);
                        if (r.nextBoolean()) go("end", wild(0, 20));
                        go("row");
                        go("chips");
                    }
            }
        }

        void ask() {
            switch (r.nextInt(18)) {
                case 0: go("bullet", wild(0, 5)); break;
                case 1: go("at", aPlace(), wild(0, 6)); break;
                case 2: go("of", aPerson(), wild(0, 3 + m.now.places.size())); break;
                case 3: go("about", aQuarrel(), wild(0, 4)); break;
                case 4: go("barred", aPerson(), aPlace()); break;
                case 5: go("log", wild(0, 23)); break;
                case 6: go("odds", aQuarrel(), wild(0, 3)); break;
                case 7: case 8: if (m.now.quarrels.size() <= size) { go("queue", wild(0, 21)); if (r.nextInt(4) == 0) for (int k = 0; k < 22; k++) go("queue", k); } break;
                case 9: if (m.now.quarrels.size() <= size) go("spades"); break;
                case 10: go("free", wild(0, 1)); break;
                case 11: {
                    int n = wild(1, 3), w = m.now.weight, f = m.now.flat;
                    State s = m.now.copy();
                    for (int k = 0; k < n && k < 3 && !s.places.isEmpty(); k++) s.shot(r.nextInt(s.places.size()));
                    if (r.nextInt(4) > 0) { w = s.weight; f = s.flat; }
                    if (r.nextInt(12) == 0) { w = wild(0, 999); f = wild(0, 99); }
                    go("marks", n, w, f, wild(-1, 2));
                    break;
                }
                case 12: go("game", wild(0, 2)); break;
                case 13: go("share", wild(0, 1), wild(0, 1)); break;
                case 14: go("drawn", wild(0, 5)); break;
                case 15: case 16: go("count", wild(0, 19)); break;
                default: go("status");
            }
        }

        /** Many QUARRELS under LAWS by which their order matters. */
        boolean queues() {
            for (int k = 0; k < 4; k++) go("place", r.nextInt(12) == 0 ? 2 : r.nextInt(2), r.nextInt(60), r.nextInt(6));
            for (int k = 0; k < 5; k++) go("person", r.nextInt(11), r.nextInt(2));
            go("put", 0, 100 + r.nextInt(500));
            go("terms", 1, 1 + r.nextInt(3));
            go("terms", 3, 1 + r.nextInt(3));
            for (int k = 0; k < size; k++) go("quarrel", k % 5, (k + 1 + r.nextInt(4)) % 5, r.nextInt(4), 20 + r.nextInt(r.nextInt(300) + 1));
            for (int round = 0; round < 4; round++) {
                text(new Writer(r, false).text());
                go("law");
                go("force", r.nextInt(4) - 1);
                if (r.nextBoolean()) go("terms", 0, r.nextInt(30));
                for (int k = -1; k < 23; k++) go("queue", k);
                go("spades");
                go("queue", 21);
                go("free", 0);
                go("free", 1);
                go("season", r.nextInt(1000001), 1 + r.nextInt(30));
                for (int k = 0; k < 6; k++) go("drawn", k);
            }
            return good;
        }

        boolean all() {
            go("place", wild(0, 3), wild(0, 99), wild(0, 5));
            go("place", r.nextInt(2), wild(0, 60), wild(0, 2));
            for (int k = r.nextInt(4); k >= 0; k--) go("person", wild(0, 10), wild(0, 1));
            if (r.nextInt(3) == 0) go("put", 0, r.nextInt(1000));
            while (good && made < 460) { change(); ask(); ask(); }
            for (int k = 0; k < 20; k++) go("count", k);
            return good;
        }
    }

    public static void main(String[] args) {
        long from = args.length > 0 ? Long.parseLong(args[0]) : 1;
        int runs = args.length > 1 ? Integer.parseInt(args[1]) : 400;
        Map<String, Integer> hits = new java.util.TreeMap<>();
        for (long seed = from; seed < from + runs; seed++) {
            if (!new Run(seed, seed % 40 == 0 ? 6 : 4, hits).all()) {
                System.out.println("seed " + seed);
                System.exit(1);
            }
        }
        for (long seed = from; seed < from + runs / 2; seed++) {
            if (!new Run(seed, seed % 50 == 0 ? 7 : 3 + (int) (seed % 3), hits).queues()) {
                System.out.println("queues, seed " + seed);
                System.exit(1);
            }
        }
        if (args.length > 0) System.out.println(hits);
        System.out.println(calls + " calls as the model has them");
    }
}
