import java.math.BigInteger;
import java.util.ArrayList;
import java.util.Arrays;
import java.util.HashMap;
import java.util.LinkedHashSet;
import java.util.List;
import java.util.Map;
import java.util.Set;
import java.util.TreeSet;

/**
 * Answers the calls of OldWorks as plainly as the document says them, by trying everything: what the program is
 * held against. Nothing of it is taken from the program.
 */
public final class PlainWorks {
    private static final class Fault extends RuntimeException {
        final int number;

        Fault(int number) {
            this.number = number;
        }
    }

    private List<int[]> parts = new ArrayList<>();
    private int[][] families = {{1, 1, 100000}, {1, 1, 100000}, {1, 1, 100000}, {1, 1, 100000}};
    private List<int[]> sayings = new ArrayList<>();
    private Set<Integer> denied = new TreeSet<>();
    private List<List<int[]>> chains = new ArrayList<>();
    private List<int[]> works = new ArrayList<>();
    private List<Integer> machines = new ArrayList<>();
    private List<int[]> spares = new ArrayList<>();
    private int[] odds = {0, 0};
    private List<int[]> told = new ArrayList<>();
    private Set<List<Integer>> bears = new LinkedHashSet<>();
    private List<int[]> hands = new ArrayList<>();
    private int[] needs = {0, 0, 0, 0};
    private String law = "";
    private final PlainWorks[] images = new PlainWorks[2];
    private BigInteger above = BigInteger.ZERO;
    private BigInteger below = BigInteger.ONE;

    private final Map<Integer, List<Integer>> firsts = new HashMap<>();

    // ---- parts, sayings

    private static boolean in(int v, int low, int high) {
        return v >= low && v <= high;
    }

    private boolean isPart(int p) {
        return in(p, 0, parts.size() - 1);
    }

    public int part(int load, int hardness, int year, int family) {
        if (!in(load, 0, 100) || !in(hardness, 1, 100) || !in(year, 0, 99) || !in(family, -1, 3)) return -2;
        if (parts.size() == 24) return -4;
        firsts.clear();
        parts.add(new int[] {load, hardness, year, family});
        return parts.size() - 1;
    }

    public int family(int family, int least, int step, int many) {
        if (!in(family, 0, 3) || !in(least, 1, 100000) || !in(step, 1, 100000) || !in(many, 1, 100000)) return -2;
        if (least + (long) step * (many - 1) > 100000) return -2;
        firsts.clear();
        families[family] = new int[] {least, step, many};
        return 1;
    }

    public int write(int character) {
        if (!in(character, 0, 127)) return -2;
        if (law.length() == 60) return -4;
        firsts.clear();
        law += (char) character;
        return law.length();
    }

    public int erase() {
        int many = law.length();
        firsts.clear();
        law = "";
        return many;
    }

    /** Reads by the grammar, top down. */
    private final class Reader {
        private int at = 0;
        private int open = 0;
        private final long y;
        private final long l;
        private final long h;

        Reader(long y, long l, long h) {
            this.y = y;
            this.l = l;
            this.h = h;
        }

        char next() {
            while (at < law.length() && law.charAt(at) == ' ') at++;
            return at < law.length() ? law.charAt(at) : 0xffff;
        }

        long all() {
            long v = value();
            if (next() != 0xffff) throw new Fault(10 * at + 1);
            return v;
        }

        long value() {
            long v = both();
            while (next() == '|') {
                at++;
                long w = both();
                v = v != 0 | w != 0 ? 1 : 0;
            }
            return v;
        }

        long both() {
            long v = held();
            while (next() == '&') {
                at++;
                long w = held();
                v = v != 0 & w != 0 ? 1 : 0;
            }
            return v;
        }

        long held() {
            long v = sum();
            char c = next();
            if (c != '<' && c != '>' && c != '=') return v;
            at++;
            long w = sum();
            return (c == '<' ? v < w : c == '>' ? v > w : v == w) ? 1 : 0;
        }

        long sum() {
            long v = term();
            while (next() == '+' || next() == '-') {
                boolean plus = next() == '+';
                at++;
                long w = term();
                v = plus ? v + w : v - w;
            }
            return v;
        }

        long term() {
            long v = unit();
            while (next() == '*' || next() == '/') {
                boolean times = next() == '*';
                at++;
                long w = unit();
                v = times ? v * w : w == 0 ? 0 : v / w;
            }
            return v;
        }

        long unit() {
            char c = next();
            int place = at;
            at++;
            if (c == 'y') return y;
            if (c == 'l') return l;
            if (c == 'h') return h;
            if (c == '!') return unit() == 0 ? 1 : 0;
            if (c == '-') return -unit();
            if (c >= '0' && c <= '9') {
                while (at < law.length() && law.charAt(at) >= '0' && law.charAt(at) <= '9') at++;
                if (at - place > 6) throw new Fault(10 * place + 2);
                return Long.parseLong(law.substring(place, at));
            }
            if (c != '(') throw new Fault(10 * place + 1);
            if (open == 8) throw new Fault(10 * place + 3);
            open++;
            long v = value();
            if (next() != ')') throw new Fault(10 * at + 1);
            at++;
            open--;
            return v;
        }
    }

    public int fault() {
        try {
            new Reader(0, 0, 0).all();
            return -1;
        } catch (Fault f) {
            return f.number;
        }
    }

    public int worn(int part, int year) {
        if (!isPart(part) || !in(year, 0, 99)) return -2;
        int[] p = parts.get(part);
        int y = Math.max(0, year - p[2]);
        try {
            return (int) Math.min(10000, Math.max(0, new Reader(y, p[0], p[1]).all()));
        } catch (Fault f) {
            return y;
        }
    }

    public int say(int part, int sort, int v, int e, int year) {
        if (!isPart(part) || !in(sort, 0, 3) || !in(v, -10000, 100000)) return -2;
        if (sort < 2 && !in(e, 0, 10000)) return -2;
        if (sort == 0 && !in(year, 0, 99)) return -2;
        if (sayings.size() == 60) return -4;
        firsts.clear();
        sayings.add(new int[] {part, sort, v, sort < 2 ? e : 0, sort == 0 ? year : 0});
        return sayings.size() - 1;
    }

    public int deny(int saying, boolean is) {
        if (!in(saying, 0, sayings.size() - 1)) return -2;
        if (denied.contains(saying) == is) return -3;
        firsts.clear();
        if (is) denied.add(saying);
        else denied.remove(saying);
        return 1;
    }

    private int[] sizesOf(int part) {
        int family = parts.get(part)[3];
        int[] f = family < 0 ? new int[] {1, 1, 100000} : families[family];
        int[] sizes = new int[f[2]];
        for (int i = 0; i < f[2]; i++) sizes[i] = f[0] + i * f[1];
        return sizes;
    }

    /** For each saying that counts: its number, v, e, sort, what is worn. */
    private List<int[]> countingOf(int part) {
        List<int[]> all = new ArrayList<>();
        for (int i = 0; i < sayings.size(); i++) {
            int[] s = sayings.get(i);
            if (s[0] == part && !denied.contains(i)) {
                all.add(new int[] {i, s[2], s[3], s[1], s[1] == 0 ? worn(part, s[4]) : 0});
            }
        }
        return all;
    }

    private static boolean allows(int[] s, int size) {
        if (s[3] == 2) return size <= s[1];
        if (s[3] == 3) return size >= s[1];
        return Math.abs(size - s[4] - s[1]) <= s[2];
    }

    private List<Integer> firstsOf(int part) {
        return firsts.computeIfAbsent(part, p -> {
            List<int[]> counting = countingOf(p);
            List<Integer> sizes = new ArrayList<>();
            for (int size : sizesOf(p)) {
                boolean all = true;
                for (int[] s : counting) all &= allows(s, size);
                if (all) sizes.add(size);
            }
            return sizes;
        });
    }

    public int first(int part, int what) {
        if (!isPart(part) || !in(what, 0, 2)) return -2;
        List<Integer> sizes = firstsOf(part);
        if (what == 2) return sizes.size();
        if (sizes.isEmpty()) return -1;
        return what == 0 ? sizes.get(0) : sizes.get(sizes.size() - 1);
    }

    public int quarrel(int part, int what) {
        if (!isPart(part) || what < -3 || what == -2) return -10;
        List<int[]> counting = countingOf(part);
        List<Integer> fewest = null;
        int best = 0;
        for (int size : sizesOf(part)) {
            int many = 0;
            for (int[] s : counting) if (!allows(s, size)) many++;
            if (fewest != null && many >= fewest.size()) continue;
            best = size;
            fewest = new ArrayList<>();
            for (int[] s : counting) if (!allows(s, size)) fewest.add(s[0]);
            if (many == 0) break;
        }
        if (what == -3) return best;
        if (what == -1) return fewest.size();
        return what < fewest.size() ? fewest.get(what) : -1;
    }

    // ---- chains, works

    public int chain(int low, int high) {
        if (!in(low, -100000, 100000) || !in(high, -100000, 100000) || low > high) return -2;
        if (chains.size() == 16) return -4;
        List<int[]> chain = new ArrayList<>();
        chain.add(new int[] {low, high});
        chains.add(chain);
        return chains.size() - 1;
    }

    private boolean isIn(int part, List<int[]> chain) {
        for (int i = 1; i < chain.size(); i++) if (chain.get(i)[0] == part) return true;
        return false;
    }

    public int link(int chain, int part, boolean off) {
        if (!in(chain, 0, chains.size() - 1) || !isPart(part) || isIn(part, chains.get(chain))) return -2;
        if (chains.get(chain).size() == 7) return -4;
        chains.get(chain).add(new int[] {part, off ? 1 : 0});
        return chains.get(chain).size() - 1;
    }

    /** The least and the greatest sum, or null where a FIRST is none. */
    private int[] sumsOf(List<int[]> chain, int year) {
        int[] sums = {0, 0};
        for (int i = 1; i < chain.size(); i++) {
            int part = chain.get(i)[0];
            if (first(part, 2) == 0) return null;
            int least = first(part, 0) - worn(part, year);
            int greatest = first(part, 1) - worn(part, year);
            if (chain.get(i)[1] == 0) {
                sums[0] += least;
                sums[1] += greatest;
            } else {
                sums[0] -= greatest;
                sums[1] -= least;
            }
        }
        return sums;
    }

    private boolean holds(List<int[]> chain, int year) {
        int[] sums = sumsOf(chain, year);
        if (sums == null) return false;
        return sums[0] >= chain.get(0)[0] && sums[1] <= chain.get(0)[1];
    }

    public int sum(int chain, int year, int what) {
        if (!in(chain, 0, chains.size() - 1) || !in(year, 0, 99) || !in(what, 0, 2)) return -2100000000;
        if (what == 2) return holds(chains.get(chain), year) ? 1 : 0;
        int[] sums = sumsOf(chains.get(chain), year);
        return sums == null ? -2000000000 : sums[what];
    }

    public int stands(int p, int q, int year) {
        if (!isPart(p) || !isPart(q) || p == q || !in(year, 0, 99)) return -2;
        for (List<int[]> chain : chains) {
            if (!isIn(q, chain)) continue;
            if (isIn(p, chain)) return 0;
            List<int[]> other = new ArrayList<>();
            other.add(chain.get(0));
            for (int i = 1; i < chain.size(); i++) {
                int[] link = chain.get(i);
                other.add(link[0] == q ? new int[] {p, link[1]} : link);
            }
            if (!holds(other, year)) return 0;
        }
        return 1;
    }

    public int life(int chain, int year) {
        if (!in(chain, 0, chains.size() - 1) || !in(year, 0, 99)) return -2;
        int years = 0;
        while (year + years <= 99 && holds(chains.get(chain), year + years)) years++;
        return years;
    }

    public int work(int more, int price, int low, int high) {
        if (!in(more, -500, 500) || more == 0 || !in(price, 1, 1000)) return -2;
        if (!in(low, 1, 3000) || !in(high, 1, 3000) || low > high) return -2;
        if (works.size() == 8) return -4;
        works.add(new int[] {more, price, low, high});
        return works.size() - 1;
    }

    private int bestPrice;
    private List<Integer> bestWay;

    private void tryWays(int size, int low, int high, int price, List<Integer> way) {
        if (size >= low && size <= high) {
            if (bestWay == null || price < bestPrice || price == bestPrice && way.size() < bestWay.size()) {
                bestPrice = price;
                bestWay = new ArrayList<>(way);
            }
        }
        if (way.size() == 5) return;
        for (int i = 0; i < works.size(); i++) {
            int[] w = works.get(i);
            if (size < w[2] || size > w[3] || !in(size + w[0], 1, 3000)) continue;
            way.add(i);
            tryWays(size + w[0], low, high, price + w[1], way);
            way.remove(way.size() - 1);
        }
    }

    public int way(int size, int low, int high, int what) {
        if (!in(size, 1, 3000) || !in(low, 1, 3000) || !in(high, 1, 3000) || low > high || what < -2) return -10;
        bestWay = null;
        tryWays(size, low, high, 0, new ArrayList<>());
        if (bestWay == null) return -5;
        if (what == -1) return bestPrice;
        if (what == -2) return bestWay.size();
        return what < bestWay.size() ? bestWay.get(what) : -1;
    }

    // ---- spares, breaks

    public int machine(int kind) {
        if (!in(kind, 0, 3)) return -2;
        if (machines.size() == 6) return -4;
        machines.add(kind);
        return machines.size() - 1;
    }

    public int spare(int kind, int years, int pair) {
        if (!in(kind, 0, 3) || !in(years, 1, 50) || !in(pair, -1, 3)) return -2;
        if (spares.size() == 9) return -4;
        spares.add(new int[] {kind, years, pair});
        return spares.size() - 1;
    }

    public int scrap() {
        int gone = machines.size() + spares.size();
        machines.clear();
        spares.clear();
        return gone;
    }

    private int mostYears;
    private int[] bestRow;

    private void tryRows(int machine, int[] row, Set<Integer> given) {
        if (machine < machines.size()) {
            for (int spare = -1; spare < spares.size(); spare++) {
                if (spare >= 0 && (given.contains(spare) || spares.get(spare)[0] != machines.get(machine))) continue;
                row[machine] = spare;
                if (spare >= 0) given.add(spare);
                tryRows(machine + 1, row, given);
                given.remove(spare);
            }
            return;
        }
        int years = 0;
        for (int spare : given) {
            years += spares.get(spare)[1];
            for (int other = 0; other < spares.size(); other++) {
                boolean pair = spares.get(spare)[2] >= 0 && spares.get(spare)[2] == spares.get(other)[2];
                if (pair && !given.contains(other)) return;
            }
        }
        if (years > mostYears) {
            mostYears = years;
            bestRow = row.clone();
        }
    }

    public int taking(int what) {
        if (!in(what, -1, machines.size() - 1)) return -10;
        mostYears = -1;
        tryRows(0, new int[machines.size()], new TreeSet<>());
        return what < 0 ? mostYears : bestRow[what];
    }

    public int odds(int a, int b) {
        if (!in(a, 0, 9) || !in(b, 0, 9)) return -2;
        odds = new int[] {a, b};
        return 1;
    }

    private BigInteger keeps(int part) {
        return BigInteger.valueOf(1000 - Math.min(1000, odds[0] + odds[1] * parts.get(part)[0]));
    }

    public int lasts(int part, int n) {
        if (!isPart(part) || !in(n, 0, 60)) return -2;
        above = keeps(part).pow(n);
        below = BigInteger.valueOf(1000).pow(n);
        BigInteger divisor = above.gcd(below);
        above = above.divide(divisor);
        below = below.divide(divisor);
        return 1;
    }

    public int half(int part) {
        if (!isPart(part)) return -2;
        for (int n = 1; n <= 200; n++) {
            if (keeps(part).pow(n).shiftLeft(1).compareTo(BigInteger.valueOf(1000).pow(n)) <= 0) return n;
        }
        return -1;
    }

    private List<Integer> digits(int which) {
        BigInteger rest = which == 0 ? above : below;
        List<Integer> digits = new ArrayList<>();
        do {
            BigInteger[] parts = rest.divideAndRemainder(BigInteger.valueOf(1073741824));
            digits.add(parts[1].intValue());
            rest = parts[0];
        } while (rest.signum() > 0);
        return digits;
    }

    public int limbs(int which) {
        return in(which, 0, 1) ? digits(which).size() : -2;
    }

    public int limb(int which, int i) {
        if (!in(which, 0, 1) || i < 0) return -2;
        return i < digits(which).size() ? digits(which).get(i) : -1;
    }

    public int told(int load, boolean broke) {
        if (!in(load, 0, 100)) return -2;
        if (told.size() == 40) return -4;
        told.add(new int[] {load, broke ? 1 : 0});
        return told.size();
    }

    public int fitted() {
        BigInteger best = null;
        int found = -1;
        for (int a = 0; a < 10; a++) {
            for (int b = 0; b < 10; b++) {
                BigInteger product = BigInteger.ONE;
                for (int[] t : told) {
                    int by = a + b * t[0];
                    if (!in(by, 1, 999)) product = BigInteger.ZERO;
                    product = product.multiply(BigInteger.valueOf(t[1] == 1 ? by : 1000 - by));
                }
                if (product.signum() <= 0 || best != null && product.compareTo(best) <= 0) continue;
                best = product;
                found = 10 * a + b;
            }
        }
        return found;
    }

    public int bear(int a, int b, boolean is) {
        if (!isPart(a) || !isPart(b) || a == b) return -2;
        if (bears.contains(List.of(a, b)) == is) return -3;
        if (is) bears.add(List.of(a, b));
        else bears.remove(List.of(a, b));
        return 1;
    }

    private void reach(int part, Set<Integer> reached) {
        for (List<Integer> pair : bears) {
            if (pair.get(1) == part && reached.add(pair.get(0))) reach(pair.get(0), reached);
        }
    }

    public int along(int part) {
        if (!isPart(part)) return -2;
        Set<Integer> reached = new TreeSet<>();
        reach(part, reached);
        int bits = 0;
        for (int other : reached) bits |= 1 << other;
        return bits;
    }

    // ---- hands

    public int hand(int skills, int leaves) {
        if (!in(skills, 0, 15) || !in(leaves, 0, 9)) return -2;
        if (hands.size() == 3) return -4;
        hands.add(new int[] {skills, leaves});
        return hands.size() - 1;
    }

    public int need(int skill, int runs) {
        if (!in(skill, 0, 3) || !in(runs, 0, 9)) return -2;
        int before = needs[skill];
        needs[skill] = runs;
        return before;
    }

    private int runsOf(int year, int[] skills, int who, int whom) {
        int runs = 0;
        for (int skill = 0; skill < 4; skill++) {
            boolean has = false;
            for (int hand = 0; hand < skills.length; hand++) {
                boolean free = year < hands.get(hand)[1] && hand != who && hand != whom;
                has |= free && (skills[hand] >> skill & 1) == 1;
            }
            if (has) runs += needs[skill];
        }
        return runs;
    }

    /** The runs of the best rest of a plan, then its lessons. */
    private List<Integer> bestFrom(int year, int n, int[] skills, Map<String, List<Integer>> known) {
        if (year == n) return List.of(0);
        String key = year + Arrays.toString(skills);
        if (known.containsKey(key)) return known.get(key);
        List<Integer> best = joined(runsOf(year, skills, -1, -1), -5, bestFrom(year + 1, n, skills, known));
        for (int code = 0; code < 64; code++) {
            int who = code / 16;
            int skill = code / 4 % 4;
            int whom = code % 4;
            if (who >= skills.length || whom >= skills.length || who == whom) continue;
            if (hands.get(who)[1] <= year || hands.get(whom)[1] <= year) continue;
            if ((skills[who] >> skill & 1) == 0 || (skills[whom] >> skill & 1) == 1) continue;
            int[] then = skills.clone();
            then[whom] |= 1 << skill;
            List<Integer> other = joined(runsOf(year, skills, who, whom), code, bestFrom(year + 1, n, then, known));
            if (other.get(0) > best.get(0)) best = other;
        }
        known.put(key, best);
        return best;
    }

    private static List<Integer> joined(int runs, int lesson, List<Integer> rest) {
        List<Integer> all = new ArrayList<>();
        all.add(runs + rest.get(0));
        all.add(lesson);
        all.addAll(rest.subList(1, rest.size()));
        return all;
    }

    public int plan(int n, int what) {
        if (!in(n, 1, 8) || !in(what, -1, n - 1)) return -10;
        int[] skills = new int[hands.size()];
        for (int i = 0; i < skills.length; i++) skills[i] = hands.get(i)[0];
        return bestFrom(0, n, skills, new HashMap<>()).get(what + 1);
    }

    // ---- images

    private void take(PlainWorks other) {
        firsts.clear();
        parts = new ArrayList<>(other.parts);
        families = other.families.clone();
        sayings = new ArrayList<>(other.sayings);
        denied = new TreeSet<>(other.denied);
        chains = new ArrayList<>();
        for (List<int[]> chain : other.chains) chains.add(new ArrayList<>(chain));
        works = new ArrayList<>(other.works);
        machines = new ArrayList<>(other.machines);
        spares = new ArrayList<>(other.spares);
        odds = other.odds;
        told = new ArrayList<>(other.told);
        bears = new LinkedHashSet<>(other.bears);
        hands = new ArrayList<>(other.hands);
        needs = other.needs.clone();
        law = other.law;
    }

    public int image(int i) {
        if (!in(i, 0, 1)) return -2;
        images[i] = new PlainWorks();
        images[i].take(this);
        return 1;
    }

    public int from(int i) {
        if (!in(i, 0, 1)) return -2;
        if (images[i] == null) return -3;
        take(images[i]);
        return 1;
    }

    public int count(int what) {
        int[] counts = {parts.size(), sayings.size(), denied.size(), chains.size(), works.size(), machines.size(),
            spares.size(), told.size(), hands.size(), law.length()};
        return in(what, 0, 9) ? counts[what] : -2;
    }

    private long h;

    private void mix(int... values) {
        for (int v : values) h = 31 * h + v;
    }

    public long digest() {
        h = 383;
        for (int i = 0; i < 10; i++) mix(count(i));
        for (int i = 0; i < parts.size(); i++) {
            mix(parts.get(i));
            mix(first(i, 0), first(i, 1), first(i, 2), along(i));
        }
        for (int[] f : families) mix(f);
        for (int i = 0; i < sayings.size(); i++) {
            mix(sayings.get(i));
            mix(denied.contains(i) ? 1 : 0);
        }
        for (List<int[]> chain : chains) {
            mix(chain.get(0));
            mix(chain.size() - 1);
            for (int i = 1; i < chain.size(); i++) mix(chain.get(i));
        }
        for (int[] w : works) mix(w);
        for (int kind : machines) mix(kind);
        for (int[] s : spares) mix(s);
        mix(odds);
        for (int[] t : told) mix(t);
        for (int[] x : hands) mix(x);
        mix(needs);
        for (char c : law.toCharArray()) mix(c);
        return h;
    }
}
