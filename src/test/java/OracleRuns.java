import java.math.BigInteger;
import java.util.ArrayDeque;
import java.util.ArrayList;
import java.util.Arrays;
import java.util.HashMap;
import java.util.LinkedHashMap;
import java.util.List;
import java.util.Map;
import java.util.NoSuchElementException;
import java.util.Random;
import java.util.Set;
import java.util.TreeSet;
import java.util.regex.Matcher;
import java.util.regex.Pattern;

/** Random runs of calls, each answer compared with that of a slow oracle written from the document alone. */
public final class OracleRuns {
    private static final int RUNS = 400;
    private static final int CALLS = 400;
    private static int wrong = 0;

    // ---------------------------------------------------------------- the oracle

    private static final class Fault extends RuntimeException {
        final int number;
        Fault(int kind, int place) { super("fault"); number = kind + 16 * place; }
    }

    private record Token(String text, int place, char sort) { } // w word, n number, s sign, x none, e end

    private static final Set<String> RESERVED = Set.of(("man skill field want consul hates danger size grows decree on term works "
        + "keeps name master month disobey lay plain poor proud idle not and or").split(" "));

    private static final class Man { String name; int kind, skill, field, want; }
    private static final class Danger { String name; int size, grows; }
    private static final class Decree { String name; Set<Integer> on = new TreeSet<>(); }

    private static final class Town {
        List<Man> men = new ArrayList<>();
        List<Danger> dangers = new ArrayList<>();
        List<Decree> decrees = new ArrayList<>();
        Set<Integer> consuls = new TreeSet<>();
        Set<List<Integer>> hates = new java.util.HashSet<>();
        Integer term;
        List<Token> works, keeps;
        int term() { return term == null ? 6 : term; }
    }

    private static final class State implements Cloneable {
        int month, power = -1, master = -1, left, passed;
        boolean keeps;
        int[] size = {}, field = {}, liked = {};
        State copy() {
            try {
                State s = (State) clone();
                s.size = size.clone(); s.field = field.clone(); s.liked = liked.clone();
                return s;
            } catch (CloneNotSupportedException e) { throw new Error(e); }
        }
        int total() { return Arrays.stream(size).sum(); }
    }

    private record Saved(State state, List<String[]> months, List<int[]> told) { }

    private static final class Oracle {
        String tape = "";
        Town town = new Town();
        State now = new State();
        List<String[]> lines = new ArrayList<>();
        List<int[]> told = new ArrayList<>();
        ArrayDeque<State> past = new ArrayDeque<>();
        Map<Integer, Saved> marks = new HashMap<>();

        // reading
        List<Token> tokens;
        int next;

        static List<Token> split(String text) {
            List<Token> all = new ArrayList<>();
            Matcher m = Pattern.compile("[a-z]+|[0-9]+|[^a-z0-9 \n]").matcher(text);
            while (m.find()) {
                String t = m.group();
                char c = t.charAt(0);
                char sort = 'x';
                if (c >= 'a' && c <= 'z') sort = t.length() <= 8 ? 'w' : 'x';
                else if (c >= '0' && c <= '9') sort = t.length() <= 4 ? 'n' : 'x';
                else if ("()<=+-*;".indexOf(c) >= 0) sort = 's';
                all.add(new Token(t, m.start(), sort));
            }
            all.add(new Token("", text.length(), 'e'));
            return all;
        }

        Token peek() { return tokens.get(Math.min(next, tokens.size() - 1)); }
        boolean sees(String text) { return peek().sort != 'x' && peek().sort != 'e' && peek().text.equals(text); }
        void need(String text) { if (!sees(text)) throw new Fault(1, peek().place); next++; }
        void bad(int kind) { throw new Fault(kind, peek().place); }
        boolean seesName() { return peek().sort == 'w' && !RESERVED.contains(peek().text); }
        String someName() { if (!seesName()) bad(1); return peek().text; }

        int manIn(Town t, String n) { for (int i = 0; i < t.men.size(); i++) if (t.men.get(i).name.equals(n)) return i; return -1; }
        int dangerIn(Town t, String n) { for (int i = 0; i < t.dangers.size(); i++) if (t.dangers.get(i).name.equals(n)) return i; return -1; }
        int decreeIn(Town t, String n) { for (int i = 0; i < t.decrees.size(); i++) if (t.decrees.get(i).name.equals(n)) return i; return -1; }

        String newName(Town t) {
            String n = someName();
            if (manIn(t, n) >= 0 || dangerIn(t, n) >= 0 || decreeIn(t, n) >= 0) bad(3);
            next++;
            return n;
        }

        int number(int least, int most) {
            if (peek().sort != 'n') bad(1);
            int n = Integer.parseInt(peek().text);
            if (n < least || n > most) bad(4);
            next++;
            return n;
        }

        int oldMan(Town t) { int m = manIn(t, someName()); if (m < 0) bad(2); return m; }
        int oldDanger(Town t) { int d = dangerIn(t, someName()); if (d < 0) bad(2); return d; }

        Town readTown() {
            Town t = new Town();
            while (peek().sort != 'e') {
                String first = peek().sort == 'w' ? peek().text : "?";
                if (first.equals("man")) {
                    if (t.men.size() == 6) bad(5);
                    next++;
                    Man m = new Man();
                    m.name = newName(t);
                    m.kind = peek().sort == 'w' ? List.of("plain", "poor", "proud", "idle").indexOf(peek().text) : -1;
                    if (m.kind < 0) bad(1);
                    next++;
                    need("skill"); m.skill = number(0, 9);
                    need("field"); m.field = number(0, 99);
                    need("want"); m.want = number(0, 9);
                    need(";");
                    t.men.add(m);
                } else if (first.equals("consul")) {
                    if (t.consuls.size() == 2) bad(5);
                    next++;
                    int m = oldMan(t);
                    if (!t.consuls.add(m)) bad(3);
                    next++;
                    need(";");
                } else if (first.equals("hates")) {
                    next++;
                    int a = oldMan(t);
                    next++;
                    int b = oldMan(t);
                    if (a == b || !t.hates.add(List.of(a, b))) bad(3);
                    next++;
                    need(";");
                } else if (first.equals("danger")) {
                    if (t.dangers.size() == 5) bad(5);
                    next++;
                    Danger d = new Danger();
                    d.name = newName(t);
                    need("size"); d.size = number(1, 99);
                    need("grows"); d.grows = number(0, 9);
                    need(";");
                    t.dangers.add(d);
                } else if (first.equals("decree")) {
                    if (t.decrees.size() == 6) bad(5);
                    next++;
                    Decree d = new Decree();
                    d.name = newName(t);
                    if (sees("on")) {
                        next++;
                        do {
                            int on = decreeIn(t, someName());
                            if (on < 0) bad(2);
                            if (!d.on.add(on)) bad(3);
                            next++;
                        } while (seesName());
                    }
                    need(";");
                    t.decrees.add(d);
                } else if (first.equals("term")) {
                    if (t.term != null) bad(3);
                    next++;
                    t.term = number(1, 12);
                    need(";");
                } else if (first.equals("works") || first.equals("keeps")) {
                    boolean works = first.equals("works");
                    if ((works ? t.works : t.keeps) != null) bad(3);
                    next++;
                    int from = next;
                    Map<String, Integer> facts = new LinkedHashMap<>();
                    for (String f : (works ? "able greed large passed" : "able greed liked left").split(" ")) facts.put(f, 1);
                    expression(facts, 0);
                    List<Token> law = new ArrayList<>(tokens.subList(from, next));
                    law.add(new Token("", 0, 'e'));
                    if (works) t.works = law; else t.keeps = law;
                    need(";");
                } else bad(1);
            }
            return t;
        }

        // An E is worked out while it is read.
        int expression(Map<String, Integer> facts, int depth) {
            int value = test(facts, depth);
            while (sees("and") || sees("or")) {
                boolean and = sees("and");
                next++;
                int more = test(facts, depth);
                value = (and ? value != 0 && more != 0 : value != 0 || more != 0) ? 1 : 0;
            }
            return value;
        }

        int test(Map<String, Integer> facts, int depth) {
            int value = sum(facts, depth);
            if (sees("<")) { next++; return value < sum(facts, depth) ? 1 : 0; }
            if (sees("=")) { next++; return value == sum(facts, depth) ? 1 : 0; }
            return value;
        }

        int sum(Map<String, Integer> facts, int depth) {
            int value = product(facts, depth);
            while (sees("+") || sees("-")) {
                boolean plus = sees("+");
                next++;
                int more = product(facts, depth);
                value = plus ? value + more : value - more;
            }
            return value;
        }

        int product(Map<String, Integer> facts, int depth) {
            int value = part(facts, depth);
            while (sees("*")) { next++; value *= part(facts, depth); }
            return value;
        }

        int part(Map<String, Integer> facts, int depth) {
            Token t = peek();
            boolean can = t.sort == 'n' || t.sort == 's' && t.text.equals("(")
                || t.sort == 'w' && (t.text.equals("not") || facts.containsKey(t.text));
            if (!can) bad(1);
            if (depth == 5) bad(5);
            next++;
            if (t.sort == 'n') return Integer.parseInt(t.text);
            if (t.text.equals("(")) { int v = expression(facts, depth + 1); need(")"); return v; }
            if (t.text.equals("not")) return part(facts, depth + 1) == 0 ? 1 : 0;
            return facts.get(t.text);
        }

        int worth(List<Token> law, Map<String, Integer> facts) {
            tokens = law;
            next = 0;
            return expression(facts, 0);
        }

        List<String[]> readLines() {
            List<String[]> all = new ArrayList<>();
            while (peek().sort != 'e') {
                String first = peek().sort == 'w' ? peek().text : "?";
                if (!List.of("name", "master", "month", "disobey", "lay").contains(first)) bad(1);
                if (all.size() == 40) bad(5);
                next++;
                String[] line = {first, "0", "0"};
                if (!first.equals("lay")) {
                    boolean men = first.equals("name") || first.equals("master");
                    int a = men ? oldMan(town) : oldDanger(town);
                    line[1] = "" + a;
                    next++;
                    if (first.equals("name") || first.equals("disobey")) {
                        int b = men ? oldMan(town) : oldDanger(town);
                        if (a == b) bad(3);
                        line[2] = "" + b;
                        next++;
                    }
                }
                need(";");
                all.add(line);
            }
            return all;
        }

        // calls
        int feed(long... parts) {
            for (long p : parts)
                for (byte b : java.nio.ByteBuffer.allocate(8).putLong(p).array())
                    if ((b == 10 || b >= 32 && b <= 126) && tape.length() < 1000) tape += (char) b;
            return tape.length();
        }

        State fresh() {
            State s = new State();
            s.size = town.dangers.stream().mapToInt(d -> d.size).toArray();
            s.field = town.men.stream().mapToInt(m -> m.field).toArray();
            s.liked = new int[town.men.size()];
            return s;
        }

        int city() {
            tokens = split(tape);
            next = 0;
            tape = "";
            try {
                town = readTown();
            } catch (Fault f) { return f.number; }
            now = fresh();
            lines = new ArrayList<>();
            told = new ArrayList<>();
            past.clear();
            marks.clear();
            return 0;
        }

        int months() {
            tokens = split(tape);
            next = 0;
            tape = "";
            try {
                lines = readLines();
            } catch (Fault f) { return f.number; }
            return 0;
        }

        boolean isMan(int m) { return m >= 0 && m < town.men.size(); }
        boolean isDanger(int d) { return d >= 0 && d < town.dangers.size(); }

        int man(int m, int what) {
            if (!isMan(m) || what < 0 || what > 5) return -2;
            Man x = town.men.get(m);
            return new int[] {x.kind, x.skill, x.want, now.field[m], now.liked[m], town.consuls.contains(m) ? 1 : 0}[what];
        }

        int danger(int d, int what) {
            if (!isDanger(d) || what < 0 || what > 2) return -2;
            return new int[] {now.size[d], town.dangers.get(d).grows, town.dangers.get(d).size}[what];
        }

        boolean may(int c, int m) {
            return isMan(c) && isMan(m) && c != m && town.consuls.contains(c) && !town.hates.contains(List.of(c, m));
        }

        boolean doName(State s, int c, int m) {
            if (s.power >= 0 || !may(c, m)) return false;
            s.power = m; s.master = -1; s.left = town.term(); s.keeps = false; s.passed = 0;
            return true;
        }

        boolean doMaster(State s, int m) {
            if (!isMan(m) || s.power < 0 || s.power == m || town.consuls.contains(m) || s.master == m) return false;
            s.master = m;
            return true;
        }

        int power(int m, int large, int passed) {
            Man x = town.men.get(m);
            if (town.works == null) return x.kind == 3 && passed == 0 ? 0 : x.skill;
            int e = worth(town.works, Map.of("able", x.skill, "greed", x.want, "large", large, "passed", passed));
            return e < 0 ? 0 : e > 99 ? 99 : e;
        }

        boolean keeping(int m, int liked, int left) {
            Man x = town.men.get(m);
            if (town.keeps == null) return 9 < x.want + liked;
            return worth(town.keeps, Map.of("able", x.skill, "greed", x.want, "liked", liked, "left", left)) != 0;
        }

        void likes(State s, int m, int more) { for (int i = 0; i < more; i++) if (s.liked[m] < 99) s.liked[m]++; }

        int doMonth(State s, int d, int other) {
            int[] before = s.size.clone();
            Set<Integer> turned = new TreeSet<>();
            if (s.power >= 0) {
                turned.add(d);
                s.size[d] -= power(s.power, s.size[d], s.passed);
                if (other >= 0) {
                    turned.add(other);
                    s.size[other] = Math.max(0, s.size[other] - town.men.get(s.master).skill);
                    likes(s, s.master, 1);
                } else if (s.master >= 0) s.size[d] -= town.men.get(s.master).skill / 2;
                s.size[d] = Math.max(0, s.size[d]);
            }
            int came = 0;
            for (int i = 0; i < s.size.length; i++) {
                if (before[i] > 0 && s.size[i] == 0) came++;
                if (s.size[i] != 0 && !turned.contains(i)) s.size[i] = Math.min(99, s.size[i] + town.dangers.get(i).grows);
            }
            if (s.power >= 0) {
                int p = s.power;
                Man x = town.men.get(p);
                likes(s, p, came * (x.kind == 2 ? 5 : 3));
                s.field[p] = Math.max(0, s.field[p] - (x.kind == 1 ? 10 : 5));
                s.passed++;
                if (!s.keeps && --s.left == 0) {
                    if (keeping(p, s.liked[p], s.total())) s.keeps = true;
                    else { s.power = -1; s.master = -1; s.passed = 0; }
                }
            }
            s.month++;
            return came;
        }

        int doLay(State s) {
            if (s.power < 0 || s.keeps) return -1;
            int left = s.left;
            likes(s, s.power, left);
            s.power = -1; s.master = -1; s.left = 0; s.passed = 0;
            return left;
        }

        void took(State before) {
            past.addLast(before);
            if (past.size() > 16) past.removeFirst();
        }

        boolean name(int c, int m) {
            State b = now.copy();
            boolean ok = doName(now, c, m);
            if (ok) took(b);
            return ok;
        }

        boolean master(int m) {
            State b = now.copy();
            boolean ok = doMaster(now, m);
            if (ok) took(b);
            return ok;
        }

        int month(int d) {
            if (!isDanger(d)) return -1;
            took(now.copy());
            return doMonth(now, d, -1);
        }

        int disobey(int d, int o) {
            if (!isDanger(d) || !isDanger(o) || d == o || now.power < 0 || now.master < 0) return -1;
            took(now.copy());
            return doMonth(now, d, o);
        }

        int lay() {
            State b = now.copy();
            int left = doLay(now);
            if (left >= 0) took(b);
            return left;
        }

        boolean undo() {
            if (past.isEmpty()) return false;
            now = past.removeLast();
            return true;
        }

        int judged(int what) {
            if (what < 0 || what > 2) return -2;
            State s = fresh();
            int cant = -1, kept = -1;
            for (int i = 0; i < lines.size(); i++) {
                String[] l = lines.get(i);
                int a = Integer.parseInt(l[1]), b = Integer.parseInt(l[2]);
                boolean ok = true;
                if (l[0].equals("name")) ok = doName(s, a, b);
                if (l[0].equals("master")) ok = doMaster(s, a);
                if (l[0].equals("month")) doMonth(s, a, -1);
                if (l[0].equals("lay")) ok = doLay(s) >= 0;
                if (l[0].equals("disobey")) {
                    ok = s.power >= 0 && s.master >= 0;
                    if (ok) doMonth(s, a, b);
                }
                if (!ok && cant < 0) cant = i;
                if (s.keeps && kept < 0) kept = i;
            }
            return what == 0 ? cant : what == 1 ? kept : s.total();
        }

        int alone(int m, int size, int months) {
            for (int k = 0; k < months; k++) if (size > 0) size = Math.max(0, size - power(m, size, k));
            return size;
        }

        int soon(int m, int d) {
            if (!isMan(m) || !isDanger(d)) return -1;
            for (int n = 0; n <= 24; n++) if (alone(m, now.size[d], n) == 0) return n;
            return -1;
        }

        int best(int d, int term) {
            int best = -1;
            for (int m = 0; m < town.men.size(); m++) {
                boolean could = false;
                for (int c : town.consuls) could |= may(c, m);
                int n = soon(m, d);
                if (!could || n < 0 || n > term) continue;
                State s = now.copy();
                if (s.size[d] != 0) likes(s, m, town.men.get(m).kind == 2 ? 5 : 3);
                s.size[d] = 0;
                s.power = -1; s.master = -1; s.keeps = false;
                for (int k = 0; k < n; k++) doMonth(s, d, -1);
                if (keeping(m, s.liked[m], s.total())) continue;
                if (best < 0 || n < soon(best, d)) best = m;
            }
            return best;
        }

        int whom(int d) { return isDanger(d) ? best(d, town.term()) : -1; }

        int terms(int d) {
            if (isDanger(d)) for (int t = 1; t <= 12; t++) if (best(d, t) >= 0) return t;
            return -1;
        }

        int headings(int months, int what) {
            int n = town.dangers.size();
            if (months < 1 || months > 5 || what < 0 || what > months || now.power < 0 || n == 0) return -2;
            int least = Integer.MAX_VALUE;
            int[] row = null;
            int rows = (int) Math.round(Math.pow(n, months));
            for (int r = 0; r < rows; r++) {
                int[] of = new int[months];
                for (int i = months - 1, x = r; i >= 0; i--, x /= n) of[i] = x % n;
                State s = now.copy();
                for (int d : of) doMonth(s, d, -1);
                if (s.total() < least) { least = s.total(); row = of; }
            }
            return what == 0 ? least : row[what - 1];
        }

        int all(int danger) {
            if (danger != -1 && !isDanger(danger)) return -2;
            List<Integer> real = new ArrayList<>();
            for (int d = 0; d < now.size.length; d++) if (now.size[d] != 0) real.add(d);
            int men = town.men.size();
            if (real.size() > men) return -2;
            int rows = (int) Math.round(Math.pow(men, real.size()));
            int least = Integer.MAX_VALUE;
            int[] best = null;
            for (int r = 0; r < rows; r++) {
                int[] of = new int[real.size()];
                for (int i = of.length - 1, x = r; i >= 0; i--, x /= men) of[i] = x % men;
                if (Arrays.stream(of).distinct().count() != of.length) continue;
                int months = 0;
                for (int i = 0; i < of.length; i++) { int s = soonOf(of[i], real.get(i)); months += s < 0 ? 99 : s; }
                if (months < least) { least = months; best = of; }
            }
            soons.clear();
            if (danger == -1) return least;
            return real.contains(danger) ? best[real.indexOf(danger)] : -1;
        }

        final Map<Integer, Integer> soons = new HashMap<>();
        int soonOf(int m, int d) { return soons.computeIfAbsent(m * 10 + d, k -> soon(m, d)); }

        int waits(int size) {
            if (size < 1 || size > 495) return -1;
            State s = now.copy();
            s.power = -1; s.master = -1; s.keeps = false;
            for (int n = 0; n <= 99; n++) {
                if (s.total() >= size) return n;
                if (s.size.length > 0) doMonth(s, 0, -1);
            }
            return -1;
        }

        int chance(int m, int d, int odds, int months) {
            if (!isMan(m) || !isDanger(d) || odds < 0 || odds > 10 || months < 1 || months > 12) throw new NoSuchElementException();
            BigInteger good = BigInteger.ZERO;
            Map<List<Integer>, BigInteger> known = new HashMap<>();
            good = good(m, d, now.size[d], 0, months, odds, known);
            return good.multiply(BigInteger.valueOf(1000000)).divide(BigInteger.TEN.pow(months)).intValueExact();
        }

        BigInteger good(int m, int d, int size, int k, int months, int odds, Map<List<Integer>, BigInteger> known) {
            if (size == 0) return BigInteger.TEN.pow(months - k);
            if (k == months) return BigInteger.ZERO;
            List<Integer> key = List.of(size, k);
            BigInteger got = known.get(key);
            if (got != null) return got;
            int less = Math.max(0, size - power(m, size, k));
            int more = Math.min(99, size + town.dangers.get(d).grows);
            got = good(m, d, less, k + 1, months, odds, known).multiply(BigInteger.valueOf(10 - odds))
                .add(good(m, d, more, k + 1, months, odds, known).multiply(BigInteger.valueOf(odds)));
            known.put(key, got);
            return got;
        }

        boolean areDecrees(int bits) { return bits >= 0 && bits < (1 << town.decrees.size()); }

        int falls(int bits) {
            if (!areDecrees(bits)) return -1;
            for (int round = 0; round < 7; round++)
                for (int i = 0; i < town.decrees.size(); i++)
                    for (int on : town.decrees.get(i).on) if ((bits >> on & 1) == 1) bits |= 1 << i;
            return bits;
        }

        boolean stands(int decree, int fallen) {
            if ((fallen >> decree & 1) == 1) return false;
            for (int on : town.decrees.get(decree).on) if (!stands(on, fallen)) return false;
            return true;
        }

        int anew(int bits, int decree) {
            if (!areDecrees(bits) || decree < 0 || decree >= town.decrees.size()) return -1;
            int fallen = falls(bits), best = -1;
            for (int some = 0; some < 64; some++)
                if ((some & ~fallen) == 0 && stands(decree, fallen & ~some)
                    && (best < 0 || Integer.bitCount(some) < Integer.bitCount(best))) best = some;
            return best;
        }

        boolean tell(int d, int months, int size) {
            if (!isDanger(d) || months < 0 || months > 12 || size < 0 || size > 99 || told.size() == 8) return false;
            told.add(new int[] {d, months, size});
            return true;
        }

        int who() {
            int bits = 0;
            for (int m = 0; m < town.men.size(); m++) {
                boolean so = true;
                for (int[] t : told) so &= alone(m, town.dangers.get(t[0]).size, t[1]) == t[2];
                if (so) bits |= 1 << m;
            }
            return bits;
        }

        int when(int d) {
            if (!isDanger(d)) return -1;
            int men = who(), all = Integer.bitCount(men), best = -1, least = all;
            for (int n = 0; n <= 12; n++) {
                Map<Integer, Integer> groups = new HashMap<>();
                for (int m = 0; m < town.men.size(); m++)
                    if ((men >> m & 1) == 1) groups.merge(alone(m, town.dangers.get(d).size, n), 1, Integer::sum);
                int greatest = groups.values().stream().mapToInt(x -> x).max().orElse(0);
                if (greatest < least) { least = greatest; best = n; }
            }
            return best;
        }

        int rests(int wait, int strike, int other, int what) {
            for (int x : new int[] {wait, strike, other}) if (x < 0 || x > 9) throw new NoSuchElementException();
            int[][] first = {{wait, other}, {strike, 0}};
            int[][] second = {{wait, strike}, {other, 0}};
            List<Integer> all = new ArrayList<>();
            for (int a = 0; a < 2; a++)
                for (int b = 0; b < 2; b++)
                    if (first[1 - a][b] <= first[a][b] && second[a][1 - b] <= second[a][b]) all.add(2 * a + b);
            if (what == -1) return all.size();
            if (what < 0 || what >= all.size()) throw new NoSuchElementException();
            return all.get(what);
        }

        BigInteger g;
        int draw(int below) {
            g = g.multiply(BigInteger.valueOf(1103515245)).add(BigInteger.valueOf(12345)).mod(BigInteger.valueOf(2147483648L));
            return g.divide(BigInteger.valueOf(65536)).mod(BigInteger.valueOf(below)).intValue();
        }

        int ages(int seed, int months, int what) {
            if (seed < 0 || seed > 9999 || months < 1 || months > 99 || what < 0 || what > 2) return -1;
            g = BigInteger.valueOf(seed);
            State s = now.copy();
            int came = 0, kept = 0;
            for (int i = 0; i < months; i++) {
                if (s.power < 0 && !town.men.isEmpty()) {
                    int a = draw(town.men.size()), b = draw(town.men.size());
                    doName(s, a, b);
                }
                if (!town.dangers.isEmpty()) came += doMonth(s, draw(town.dangers.size()), -1);
                if (s.keeps) kept++;
            }
            return what == 0 ? came : what == 1 ? kept : Arrays.stream(s.field).sum();
        }

        boolean mark(int k, boolean back) {
            if (k < 0 || k > 3) return false;
            if (!back) {
                marks.put(k, new Saved(now.copy(), new ArrayList<>(lines), new ArrayList<>(told)));
                return true;
            }
            Saved s = marks.get(k);
            if (s == null) return false;
            now = s.state.copy();
            lines = new ArrayList<>(s.months);
            told = new ArrayList<>(s.told);
            past.clear();
            return true;
        }

        int count(int what) {
            switch (what) {
                case 0: return town.men.size();
                case 1: return town.dangers.size();
                case 2: return town.decrees.size();
                case 3: return town.consuls.stream().mapToInt(c -> 1 << c).sum();
                case 4: return now.month;
                case 5: return now.power;
                case 6: return now.master;
                case 7: return now.power < 0 || now.keeps ? 0 : now.left;
                case 8: return now.keeps ? 1 : 0;
                case 9: return now.total();
                case 10: return lines.size();
                case 11: return told.size();
                case 12: return past.size();
                case 13: return tape.length();
                case 14: return town.term();
                default: return -1;
            }
        }
    }

    // ---------------------------------------------------------------- random texts

    private static final String[] MEN = {"ma", "mb", "mc", "md", "me", "mf", "mg"};
    private static final String[] DANGERS = {"da", "db", "dc", "dd", "de", "df"};
    private static final String[] DECREES = {"ea", "eb", "ec", "ed", "ee", "ef", "eg"};
    private static final String[] KINDS = {"plain", "poor", "proud", "idle"};

    private static String pick(Random r, String... of) { return of[r.nextInt(of.length)]; }

    private static String law(Random r, boolean works, int depth) {
        StringBuilder b = new StringBuilder(testOf(r, works, depth));
        while (r.nextInt(4) == 0) b.append(pick(r, " and ", " or ")).append(testOf(r, works, depth));
        return b.toString();
    }

    private static String testOf(Random r, boolean works, int depth) {
        String sum = sumOf(r, works, depth);
        return r.nextInt(3) == 0 ? sum + pick(r, "<", "=") + sumOf(r, works, depth) : sum;
    }

    private static String sumOf(Random r, boolean works, int depth) {
        StringBuilder b = new StringBuilder(partOf(r, works, depth));
        while (r.nextInt(5) < 2) b.append(pick(r, "+", "-", "*")).append(partOf(r, works, depth));
        return b.toString();
    }

    private static String partOf(Random r, boolean works, int depth) {
        int k = r.nextInt(8);
        if (k < 2) return "" + (r.nextInt(5) == 0 ? r.nextInt(9999) : r.nextInt(14));
        if (k == 2 && (depth < 4 || r.nextInt(10) == 0) && depth < 7) return "not " + partOf(r, works, depth + 1);
        if (k == 3 && (depth < 4 || r.nextInt(10) == 0) && depth < 7) return "(" + law(r, works, depth + 1) + ")";
        return " " + (works ? pick(r, "able", "greed", "large", "passed", "able") : pick(r, "able", "greed", "liked", "left")) + " ";
    }

    private static String townText(Random r) {
        StringBuilder b = new StringBuilder();
        int men = Math.min(6, r.nextInt(7) + r.nextInt(3)), dangers = Math.min(5, r.nextInt(6) + r.nextInt(2)), decrees = r.nextInt(7);
        if (r.nextInt(40) == 0) men = 7;
        if (r.nextInt(40) == 0) dangers = 6;
        if (r.nextInt(40) == 0) decrees = 7;
        for (int i = 0; i < men; i++)
            b.append("man ").append(MEN[i]).append(" ").append(pick(r, KINDS)).append(" skill ").append(r.nextInt(10)).append(" field ")
                .append(r.nextInt(100)).append(" want ").append(r.nextInt(r.nextBoolean() ? 10 : 3)).append(";");
        for (int i = 0; i < dangers; i++)
            b.append("danger ").append(DANGERS[i]).append(" size ").append(1 + r.nextInt(r.nextInt(3) == 0 ? 99 : 25)).append(" grows ").append(r.nextInt(10)).append(";");
        for (int i = 0; i < 2; i++) if (men > 0 && r.nextInt(5) > 0) {
            String c = MEN[r.nextInt(men)];
            if (b.indexOf("consul " + c) < 0 || r.nextInt(20) == 0) b.append("consul ").append(c).append(";");
        }
        for (int i = r.nextInt(4); i > 0 && men > 1; i--) {
            String a = MEN[r.nextInt(men)], c = MEN[r.nextInt(men)];
            boolean again = a.equals(c) || b.indexOf("hates " + a + " " + c) >= 0;
            if (!again || r.nextInt(20) == 0) b.append("hates ").append(a).append(" ").append(c).append(";");
        }
        for (int i = 0; i < decrees; i++) {
            b.append("decree ").append(DECREES[i]);
            StringBuilder on = new StringBuilder();
            for (int j = 0; j < i; j++) if (r.nextInt(3) == 0) on.append(" ").append(DECREES[j]);
            if (on.length() > 0) b.append(" on").append(on);
            b.append(";");
        }
        if (r.nextBoolean()) b.append("term ").append(1 + r.nextInt(12)).append(";");
        boolean works = r.nextBoolean();
        for (int i = 0; i < 2; i++, works = !works)
            if (r.nextBoolean()) b.append(works ? "works " : "keeps ").append(law(r, works, 0)).append(";");
        return b.toString();
    }

    private static String monthsText(Random r, Oracle o) {
        StringBuilder b = new StringBuilder();
        int men = o.town.men.size(), dangers = o.town.dangers.size();
        int n = r.nextInt(30) == 0 ? 38 + r.nextInt(5) : r.nextInt(20);
        for (int i = 0; i < n; i++) {
            int k = r.nextInt(10);
            if (k < 2 && men > 1) {
                int a = r.nextInt(men), c = r.nextInt(men);
                if (!o.town.consuls.isEmpty() && r.nextInt(4) > 0) a = o.town.consuls.iterator().next();
                if (a != c) b.append("name ").append(MEN[a]).append(" ").append(MEN[c]).append(";");
            } else if (k < 4 && men > 0) b.append("master ").append(MEN[r.nextInt(men)]).append(";");
            else if (k < 7 && dangers > 0) b.append("month ").append(DANGERS[r.nextInt(dangers)]).append(";");
            else if (k < 9 && dangers > 1) {
                int d = r.nextInt(dangers), e = r.nextInt(dangers);
                if (d != e) b.append("disobey ").append(DANGERS[d]).append(" ").append(DANGERS[e]).append(";");
            } else b.append("lay;");
        }
        return b.toString();
    }

    private static String spoilt(Random r, String text) {
        int changes = r.nextInt(5) < 3 ? 0 : 1 + r.nextInt(2);
        for (int i = 0; i < changes; i++) {
            List<String> tokens = new ArrayList<>();
            Matcher m = Pattern.compile("[a-z]+|[0-9]+|[^a-z0-9 \n]| |\n").matcher(text);
            while (m.find()) tokens.add(m.group());
            String extra = pick(r, ";", "man", "consul", "hates", "danger", "decree", "on", "term", "works", "keeps", "name", "master", "month",
                "disobey", "lay", "not", "and", "or", "(", ")", "<", "=", "+", "-", "*", "_", "A", "12345", "1234", "100", "10", "0", "ma", "mb", "da", "db",
                "ea", "eb", "zz", "able", "left", "large", "liked", "passed", "greed", "abcdefgh", "abcdefghi", "\n", "skill", "size", "plain", "idle", " ", "term 3;");
            int at = r.nextInt(tokens.size() + 1);
            int how = r.nextInt(3);
            if (how == 0 || at == tokens.size()) tokens.add(at, extra);
            else if (how == 1) tokens.set(at, extra);
            else tokens.remove(at);
            text = String.join(r.nextInt(8) == 0 ? " " : "", tokens);
        }
        return text;
    }

    // ---------------------------------------------------------------- comparing

    private static void due(int run, int call, String what, long got, long want) {
        if (got != want && wrong++ < 30) System.out.println("run " + run + " call " + call + ": " + what + " answered " + got + ", due is " + want);
    }

    private static long[] bytes(String text, int from) {
        long[] parts = new long[3];
        for (int i = 0; i < 24 && from + i < text.length(); i++) parts[i / 8] |= (long) text.charAt(from + i) << 56 - 8 * (i % 8);
        return parts;
    }

    private static void feedBoth(int run, int call, PloughCall x, Oracle o, String text) {
        for (int i = 0; i < text.length(); i += 24) {
            long[] p = bytes(text, i);
            due(run, call, "feed", x.feed(p[0], p[1], p[2]), o.feed(p));
        }
    }

    private static int near(Random r, int count) { return r.nextInt(12) == 0 ? r.nextInt(9) - 2 : count == 0 ? r.nextInt(3) - 1 : r.nextInt(count); }

    private interface Call { int get(); }

    private static long thrown(Call c) {
        try {
            return c.get();
        } catch (NoSuchElementException e) { return 1L << 40; }
    }

    private static void run(int run) {
        Random r = new Random(run);
        PloughCall x = new PloughCall();
        Oracle o = new Oracle();
        int calls = 0;
        for (int i = 0; i < CALLS; i++) {
            int men = o.town.men.size(), dangers = o.town.dangers.size(), decrees = o.town.decrees.size();
            int m = near(r, men), d = near(r, dangers);
            int kind = i == 0 ? 0 : r.nextInt(60);
            if (kind == 0 && (i == 0 || r.nextInt(3) == 0)) {
                String text = spoilt(r, townText(r));
                feedBoth(run, i, x, o, text);
                due(run, i, "city of " + text, x.city(), o.city());
            } else if (kind == 1 || kind == 2 && r.nextInt(3) == 0) {
                String text = spoilt(r, monthsText(r, o));
                feedBoth(run, i, x, o, text);
                due(run, i, "months of " + text, x.months(), o.months());
                for (int w = -1; w < 4; w++) due(run, i, "judged " + w + " of " + text, x.judged(w), o.judged(w));
            } else if (kind == 3) {
                long a = r.nextLong(), b = r.nextLong(), c = r.nextLong();
                due(run, i, "feed of noise", x.feed(a, b, c), o.feed(a, b, c));
                if (r.nextBoolean()) due(run, i, "city of noise", x.city(), o.city());
                else due(run, i, "months of noise", x.months(), o.months());
            } else if (kind < 8) { int w = r.nextInt(8) - 1; due(run, i, "man " + m + " " + w, x.man(m, w), o.man(m, w)); }
            else if (kind < 11) { int w = r.nextInt(5) - 1; due(run, i, "danger " + d + " " + w, x.danger(d, w), o.danger(d, w)); }
            else if (kind < 13) { int n = near(r, men); due(run, i, "may", x.may(n, m) ? 1 : 0, o.may(n, m) ? 1 : 0); }
            else if (kind < 18) {
                int n = o.town.consuls.isEmpty() || r.nextInt(4) == 0 ? near(r, men) : (int) o.town.consuls.iterator().next();
                due(run, i, "name " + n + " " + m, x.name(n, m) ? 1 : 0, o.name(n, m) ? 1 : 0);
            } else if (kind < 21) due(run, i, "master " + m, x.master(m) ? 1 : 0, o.master(m) ? 1 : 0);
            else if (kind < 28) due(run, i, "month " + d, x.month(d), o.month(d));
            else if (kind < 31) { int e = near(r, dangers); due(run, i, "disobey", x.disobey(d, e), o.disobey(d, e)); }
            else if (kind == 31) due(run, i, "lay", x.lay(), o.lay());
            else if (kind == 32) { for (int k = r.nextInt(6) == 0 ? 18 : 1; k > 0; k--) due(run, i, "undo", x.undo() ? 1 : 0, o.undo() ? 1 : 0); }
            else if (kind < 35) due(run, i, "soon " + m + " " + d, x.soon(m, d), o.soon(m, d));
            else if (kind < 37) due(run, i, "whom " + d, x.whom(d), o.whom(d));
            else if (kind < 39) due(run, i, "terms " + d, x.terms(d), o.terms(d));
            else if (kind == 39) {
                int n = r.nextInt(8) == 0 ? r.nextInt(8) - 1 : 1 + r.nextInt(3);
                for (int w = -1; w <= n + 1; w++) due(run, i, "headings " + n + " " + w, x.headings(n, w), o.headings(n, w));
            } else if (kind == 40) { for (int k = -2; k <= dangers; k++) due(run, i, "all " + k, x.all(k), o.all(k)); }
            else if (kind < 43) { int s = r.nextInt(10) == 0 ? r.nextInt(600) - 50 : o.now.total() + r.nextInt(120); due(run, i, "waits " + s, x.waits(s), o.waits(s)); }
            else if (kind < 45) {
                int odds = r.nextInt(13) - 1, n = r.nextInt(14);
                due(run, i, "chance " + m + " " + d + " " + odds + " " + n, thrown(() -> x.chance(m, d, odds, n)), thrown(() -> o.chance(m, d, odds, n)));
            } else if (kind == 45) { int bits = r.nextInt(70) - 2; due(run, i, "falls " + bits, x.falls(bits), o.falls(bits)); }
            else if (kind == 46) { int bits = r.nextInt(1 << decrees), e = near(r, decrees); due(run, i, "anew " + bits + " " + e, x.anew(bits, e), o.anew(bits, e)); }
            else if (kind < 49) {
                int n = r.nextInt(15) == 0 ? r.nextInt(20) - 3 : r.nextInt(13);
                int s = o.isDanger(d) && men > 0 && n >= 0 && r.nextInt(10) > 0 ? o.alone(r.nextInt(men), o.town.dangers.get(d).size, n) : r.nextInt(103) - 2;
                due(run, i, "tell", x.tell(d, n, s) ? 1 : 0, o.tell(d, n, s) ? 1 : 0);
                due(run, i, "who", x.who(), o.who());
            } else if (kind < 51) due(run, i, "when " + d, x.when(d), o.when(d));
            else if (kind == 51) {
                int a = r.nextInt(12) - 1, b = r.nextInt(12) - 1, c = r.nextInt(12) - 1;
                for (int w = -2; w < 5; w++) { int v = w; due(run, i, "rests " + a + " " + b + " " + c + " " + w, thrown(() -> x.rests(a, b, c, v)), thrown(() -> o.rests(a, b, c, v))); }
            } else if (kind < 54) {
                int seed = r.nextInt(30) == 0 ? r.nextInt(30000) - 10000 : r.nextInt(10000), n = r.nextInt(10) == 0 ? r.nextInt(120) - 5 : 1 + r.nextInt(40);
                for (int w = -1; w < 4; w++) due(run, i, "ages " + seed + " " + n + " " + w, x.ages(seed, n, w), o.ages(seed, n, w));
            } else if (kind < 56) {
                int k = r.nextInt(6) - 1;
                boolean back = r.nextInt(3) > 0;
                due(run, i, "mark " + k + " " + back, x.mark(k, back) ? 1 : 0, o.mark(k, back) ? 1 : 0);
            }
            for (int w = -1; w < 16; w++) due(run, i, "count " + w, x.count(w), o.count(w));
        }
        for (int m = 0; m < 6; m++) for (int w = 0; w < 6; w++) due(run, CALLS, "man at last", x.man(m, w), o.man(m, w));
    }

    public static void main(String[] args) {
        int from = args.length > 0 ? Integer.parseInt(args[0]) : 0;
        int runs = args.length > 1 ? Integer.parseInt(args[1]) : RUNS;
        for (int i = from; i < from + runs && wrong == 0; i++) run(i);
        System.out.println(wrong == 0 ? runs + " random runs are as the oracle's" : wrong + " answers are not the oracle's");
        if (wrong != 0) System.exit(1);
    }
}
