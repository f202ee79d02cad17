import java.util.ArrayList;
import java.util.Arrays;
import java.util.Comparator;
import java.util.HashMap;
import java.util.HashSet;
import java.util.List;
import java.util.Map;
import java.util.Set;
import java.util.TreeSet;
import java.util.regex.Matcher;
import java.util.regex.Pattern;

/**
 * The document told a second time, slowly and in other ways than the class: texts by patterns,
 * layers by trying all numbers, ways round by walking, costs by settling the least one first.
 */
final class Model {
    static final int NONE = -9;

    record Rule(char kind, int price, int form, int head, int body, int other) {
        int cost() {
            return kind == 'p' ? price : kind == 'b' ? price + 1 : 2 * price;
        }

        Rule as(char newKind) {
            return new Rule(newKind, price, form, head, body, other);
        }

        Rule of(int newForm) {
            return new Rule(kind, price, newForm, head, body, other);
        }
    }

    record Fact(int q, int x, int y) {
        int number() {
            return 16 * q + 4 * x + y;
        }
    }

    record Reading(Fact fact, int cheap) {
    }

    int relations;
    List<Rule> rules = new ArrayList<>();
    Set<Fact> told = new HashSet<>();
    List<Reading> readings = new ArrayList<>();

    int[] layers;
    Map<Fact, Integer> born;
    Map<Fact, Integer> cheap;
    int rounds;

    Model copy() {
        Model m = new Model();
        m.relations = relations;
        m.rules = new ArrayList<>(rules);
        m.told = new HashSet<>(told);
        m.readings = new ArrayList<>(readings);
        return m;
    }

    // ---- texts

    private static Pattern pattern(int d) {
        String q = "[0-" + (d - 1) + "]";
        String rule = ";[pbw][1-9](?:[ct]" + q + q + "|[jn]" + q + q + q + ")";
        return Pattern.compile("d" + d + "(?:" + rule + "){0,5}(?:," + q + "[0-3][0-3]){0,5}");
    }

    /** Whether a text can go on from this start, each part looked at alone. */
    private static boolean canGoOn(String start) {
        for (int d = 1; d <= 4; d++) {
            Matcher m = pattern(d).matcher(start);
            if (m.matches() || m.hitEnd()) {
                return !tellsTwice(start);
            }
        }
        return false;
    }

    private static boolean tellsTwice(String start) {
        String[] parts = start.split(",");
        Set<String> seen = new HashSet<>();
        for (int k = 1; k < parts.length; k++) {
            if (parts[k].length() == 3 && !seen.add(parts[k])) {
                return true;
            }
        }
        return false;
    }

    private static boolean isWhole(String text) {
        for (int d = 1; d <= 4; d++) {
            if (pattern(d).matcher(text).matches()) {
                return true;
            }
        }
        return false;
    }

    /** The answer to a text; it is taken, if that is 0 or above. */
    int program(String text) {
        for (int end = 1; end <= text.length(); end++) {
            if (!canGoOn(text.substring(0, end))) {
                return -100 - (end - 1);
            }
        }
        if (!isWhole(text)) {
            return -100 - text.length();
        }
        Model m = new Model();
        m.relations = text.charAt(1) - '0';
        String[] parts = text.split(",");
        String[] ruleTexts = parts[0].split(";");
        for (int k = 1; k < ruleTexts.length; k++) {
            String t = ruleTexts[k];
            m.rules.add(new Rule(t.charAt(0), t.charAt(1) - '0', "ctjn".indexOf(t.charAt(2)),
                    t.charAt(3) - '0', t.charAt(4) - '0', t.length() > 5 ? t.charAt(5) - '0' : NONE));
        }
        for (int k = 1; k < parts.length; k++) {
            String t = parts[k];
            m.told.add(new Fact(t.charAt(0) - '0', t.charAt(1) - '0', t.charAt(2) - '0'));
        }
        if (!m.isLayered()) {
            return -200 - m.goingRound();
        }
        relations = m.relations;
        rules = m.rules;
        told = m.told;
        readings = new ArrayList<>();
        return rules.size();
    }

    // ---- layers

    /** Tries all numbers; those that fit with the least sum are the least, for the least of two fits too. */
    boolean isLayered() {
        layers = null;
        int least = Integer.MAX_VALUE;
        for (int code = 0; code < 256; code++) {
            int[] tried = {code & 3, code >> 2 & 3, code >> 4 & 3, code >> 6 & 3};
            int sum = Arrays.stream(tried).sum();
            if (sum < least && fits(tried)) {
                least = sum;
                layers = tried;
            }
        }
        return layers != null;
    }

    private boolean fits(int[] tried) {
        for (Rule r : rules) {
            boolean fitsBody = tried[r.head] >= tried[r.body];
            boolean fitsOther = r.form < 2 || tried[r.head] >= tried[r.other] + (r.form == 3 ? 1 : 0);
            if (!fitsBody || !fitsOther) {
                return false;
            }
        }
        return true;
    }

    private int goingRound() {
        for (int q = 0; q < relations; q++) {
            Set<Integer> seen = new HashSet<>();
            walk(2 * q, seen);
            if (seen.contains(2 * q + 1)) {
                return q;
            }
        }
        throw new IllegalStateException("no relation goes round");
    }

    /** A place is twice a relation, and 1 more once the walk went past an OTHER of form n. */
    private void walk(int place, Set<Integer> seen) {
        for (Rule r : rules) {
            if (r.body == place / 2) {
                step(2 * r.head + place % 2, seen);
            }
            if (r.form >= 2 && r.other == place / 2) {
                step(2 * r.head + (r.form == 3 ? 1 : place % 2), seen);
            }
        }
    }

    private void step(int place, Set<Integer> seen) {
        if (seen.add(place)) {
            walk(place, seen);
        }
    }

    // ---- rounds and costs

    /** By which twos of facts of BODY and OTHER (null: none is needed) a fact may follow by a rule. */
    private static List<Fact[]> from(Rule r, Fact f) {
        List<Fact[]> ways = new ArrayList<>();
        if (r.form == 1) {
            ways.add(new Fact[] {new Fact(r.body, f.y, f.x), null});
        } else if (r.form == 2) {
            for (int z = 0; z < 4; z++) {
                ways.add(new Fact[] {new Fact(r.body, f.x, z), new Fact(r.other, z, f.y)});
            }
        } else {
            ways.add(new Fact[] {new Fact(r.body, f.x, f.y), null});
        }
        return ways;
    }

    private List<Fact> all() {
        List<Fact> facts = new ArrayList<>();
        for (int k = 0; k < 16 * relations; k++) {
            facts.add(new Fact(k / 16, k / 4 % 4, k % 4));
        }
        return facts;
    }

    void settle() {
        if (!isLayered()) {
            throw new IllegalStateException("not layered");
        }
        born = new HashMap<>();
        rounds = 0;
        for (Fact f : told) {
            born.put(f, 0);
        }
        for (int layer = 0; layer < 4; layer++) {
            Set<Fact> fresh = fresh(layer);
            while (!fresh.isEmpty()) {
                rounds++;
                for (Fact f : fresh) {
                    born.put(f, rounds);
                }
                fresh = fresh(layer);
            }
        }
        settleCosts();
    }

    private Set<Fact> fresh(int layer) {
        Set<Fact> fresh = new HashSet<>();
        for (Fact f : all()) {
            for (Rule r : rules) {
                if (r.head == f.q && layers[f.q] == layer && !born.containsKey(f) && follows(r, f)) {
                    fresh.add(f);
                }
            }
        }
        return fresh;
    }

    private boolean follows(Rule r, Fact f) {
        if (r.form == 3 && born.containsKey(new Fact(r.other, f.x, f.y))) {
            return false;
        }
        for (Fact[] way : from(r, f)) {
            if (born.containsKey(way[0]) && (way[1] == null || born.containsKey(way[1]))) {
                return true;
            }
        }
        return false;
    }

    /** Of all facts that can follow from settled ones, the least dear is settled for good. */
    private void settleCosts() {
        cheap = new HashMap<>();
        for (Fact f : told) {
            cheap.put(f, 0);
        }
        while (true) {
            Fact next = null;
            int least = Integer.MAX_VALUE;
            for (Fact f : all()) {
                int cost = cheap.containsKey(f) ? NONE : leastOf(f);
                if (cost != NONE && cost < least) {
                    next = f;
                    least = cost;
                }
            }
            if (next == null) {
                return;
            }
            cheap.put(next, least);
        }
    }

    private int leastOf(Fact f) {
        int least = NONE;
        for (Rule r : rules) {
            for (int z = 0; z < 4; z++) {
                int cost = costOf(r, f, z);
                if (cost != NONE && (least == NONE || cost < least)) {
                    least = cost;
                }
            }
        }
        return least;
    }

    /** By a rule and (form j) a middle thing; NONE: it does not follow so from facts whose cost is known. */
    private int costOf(Rule r, Fact f, int z) {
        if (r.head != f.q || r.form == 3 && born.containsKey(new Fact(r.other, f.x, f.y))) {
            return NONE;
        }
        List<Fact[]> ways = from(r, f);
        Fact[] way = ways.get(Math.min(z, ways.size() - 1));
        if (!cheap.containsKey(way[0]) || way[1] != null && !cheap.containsKey(way[1])) {
            return NONE;
        }
        return r.cost() + cheap.get(way[0]) + (way[1] == null ? 0 : cheap.get(way[1]));
    }

    int ofFact(Fact f, int what) {
        if (what == 0) {
            return born.containsKey(f) ? 1 : 0;
        }
        if (what == 1) {
            return told.contains(f) ? 1 : 0;
        }
        if (!born.containsKey(f)) {
            return NONE;
        }
        if (what == 2) {
            return born.get(f);
        }
        if (what == 3) {
            return cheap.get(f);
        }
        return told.contains(f) ? NONE : lastOf(f, what);
    }

    private int lastOf(Fact f, int what) {
        for (int r = 0; r < rules.size(); r++) {
            for (int z = 0; z < 4; z++) {
                if (costOf(rules.get(r), f, z) == cheap.get(f)) {
                    return what == 4 ? r : rules.get(r).form == 2 ? z : NONE;
                }
            }
        }
        throw new IllegalStateException("no rule brings it");
    }

    int held(int q) {
        return (int) born.keySet().stream().filter(f -> f.q == q).count();
    }

    int toldOf(int q) {
        return (int) told.stream().filter(f -> f.q == q).count();
    }

    int bornIn(int k) {
        return (int) born.values().stream().filter(b -> b == k).count();
    }

    int greatest() {
        return cheap.values().stream().mapToInt(c -> c).max().orElse(0);
    }

    int ranked(int q, int k) {
        List<Fact> facts = new ArrayList<>(born.keySet());
        facts.removeIf(f -> f.q != q);
        facts.sort(Comparator.<Fact>comparingInt(f -> cheap.get(f)).thenComparingInt(f -> f.x)
                .thenComparingInt(f -> f.y));
        return k < facts.size() ? facts.get(k).number() % 16 : NONE;
    }

    int settled(int k) {
        List<Fact> facts = new ArrayList<>(born.keySet());
        facts.sort(Comparator.<Fact>comparingInt(f -> layers[f.q]).thenComparingInt(f -> cheap.get(f))
                .thenComparingInt(f -> f.q).thenComparingInt(f -> f.x).thenComparingInt(f -> f.y));
        return k < facts.size() ? facts.get(k).number() : NONE;
    }

    int demands(int q, int x) {
        Set<Integer> set = new TreeSet<>();
        demand(q, x, set);
        return set.stream().mapToInt(d -> 1 << d).sum();
    }

    private void demand(int q, int x, Set<Integer> set) {
        if (!set.add(4 * q + x)) {
            return;
        }
        for (Rule r : rules) {
            if (r.head != q) {
                continue;
            }
            for (int z = 0; z < 4; z++) {
                if (r.form == 1 || z == x) {
                    demand(r.body, z, set);
                }
                if (r.form == 3 && z == x || r.form == 2 && born.containsKey(new Fact(r.body, x, z))) {
                    demand(r.other, z, set);
                }
            }
        }
    }

    // ---- changes

    int form(int r, int form) {
        Rule had = rules.get(r);
        if (form < 0 || form > 3 || form / 2 != had.form / 2) {
            return -2;
        }
        rules.set(r, had.of(form));
        if (!isLayered()) {
            rules.set(r, had);
            return -3;
        }
        return had.form;
    }

    int tell(Fact f) {
        if (told.remove(f)) {
            return 0;
        }
        told.add(f);
        return 1;
    }

    int day(int[] threes, int what) {
        for (int k = 0; k < threes.length; k += 3) {
            int first = threes[k];
            if (first < 0 || first > 14 || first > 3 && first < 10) {
                return -2;
            }
        }
        Model m = copy();
        for (int k = 0; k < threes.length; k += 3) {
            if (!m.acts(threes[k], threes[k + 1], threes[k + 2])) {
                return what == 1 ? k / 3 : -100 - k / 3;
            }
        }
        m.settle();
        int[] answers = {m.born.size(), NONE, m.rounds, m.greatest(), m.told.size()};
        return what < 5 ? answers[what] : what - 10 < relations ? m.held(what - 10) : NONE;
    }

    private boolean acts(int first, int second, int third) {
        if (first >= 10) {
            return first - 10 < rules.size() && form(first - 10, second) >= 0;
        }
        if (first >= relations || second < 0 || second > 3 || third < 0 || third > 3) {
            return false;
        }
        tell(new Fact(first, second, third));
        return true;
    }

    // ---- readings

    int kinds(int r) {
        int set = 0;
        for (int kind = 0; kind < 3; kind++) {
            Model m = copy();
            m.rules.set(r, rules.get(r).as("pbw".charAt(kind)));
            set |= m.isSo() ? 1 << kind : 0;
        }
        return set;
    }

    int forms(int r) {
        int set = 0;
        for (int form = 0; form < 4; form++) {
            Model m = copy();
            set |= m.form(r, form) >= 0 && m.isSo() ? 1 << form : 0;
        }
        return set;
    }

    private boolean isSo() {
        settle();
        for (Reading reading : readings) {
            if (ofFact(reading.fact, 3) != reading.cheap) {
                return false;
            }
        }
        return true;
    }

    long odds(int q, int which) {
        for (int lower = 1; lower <= 16; lower++) {
            for (int upper = 0; upper <= lower; upper++) {
                if (upper * 16 == held(q) * lower) {
                    return which == 0 ? upper : lower;
                }
            }
        }
        throw new IllegalStateException("no share");
    }
}
