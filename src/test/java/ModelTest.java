import java.math.BigInteger;
import java.util.ArrayList;
import java.util.HashSet;
import java.util.List;
import java.util.Random;
import java.util.TreeSet;

/**
 * Runs of calls drawn with fixed seeds, on SpanRows and on a model that only remembers what it was
 * told and works everything out anew for each question. Every answer must be the same, and every
 * question is asked after each call that changes something.
 */
public final class ModelTest {
    private static final int RUNS = 3000;
    private static final int CALLS = 512;
    private static final BigInteger LEAST = BigInteger.valueOf(Long.MIN_VALUE);
    private static final BigInteger GREATEST = BigInteger.valueOf(Long.MAX_VALUE);

    private static final class Fact {
        final char kind;
        final int x;
        final int y;
        final long low;
        final long high;

        Fact(char kind, int x, int y, long low, long high) {
            this.kind = kind;
            this.x = x;
            this.y = y;
            this.low = low;
            this.high = high;
        }
    }

    private static final class Term {
        final int x;
        final long factor;

        Term(int x, long factor) {
            this.x = x;
            this.factor = factor;
        }
    }

    private static final class Rule {
        final int kind;
        final long k;
        final List<Term> terms;

        Rule(int kind, long k, List<Term> terms) {
            this.kind = kind;
            this.k = k;
            this.terms = terms;
        }
    }

    private static final class Model {
        int names = 0;
        List<Fact> facts = new ArrayList<>();
        List<Rule> rules = new ArrayList<>();
        List<Term> row = new ArrayList<>();
        final List<int[]> marks = new ArrayList<>();
        List<List<BigInteger>> ways = null;
        List<Integer> labelled = new ArrayList<>();
        int tried = 0;

        boolean has(int x) {
            return 0 <= x && x < names;
        }

        TreeSet<Integer> ones(int x) {
            TreeSet<Integer> all = new TreeSet<>();
            all.add(x);
            boolean grows = true;
            while (grows) {
                grows = false;
                for (Fact f : facts) {
                    if (f.kind == '=' && (all.contains(f.x) || all.contains(f.y))) {
                        grows |= all.add(f.x) | all.add(f.y);
                    }
                }
            }
            return all;
        }

        /** The numbers, if any, that facts gave to a name: more than one is a contradiction. */
        HashSet<Long> numbers(int x) {
            TreeSet<Integer> ones = ones(x);
            HashSet<Long> found = new HashSet<>();
            for (Fact f : facts) {
                if (f.kind == 'v' && ones.contains(f.x)) {
                    found.add(f.low);
                }
            }
            return found;
        }

        BigInteger number(int x) {
            HashSet<Long> all = numbers(x);
            return all.isEmpty() ? null : BigInteger.valueOf(all.iterator().next());
        }

        boolean hasSpan(int x) {
            TreeSet<Integer> ones = ones(x);
            for (Fact f : facts) {
                if (f.kind == 's' && ones.contains(f.x)) {
                    return true;
                }
            }
            return false;
        }

        BigInteger edge(int x, boolean high) {
            TreeSet<Integer> ones = ones(x);
            BigInteger edge = high ? GREATEST : LEAST;
            for (Fact f : facts) {
                if (f.kind == 's' && ones.contains(f.x)) {
                    edge = high ? edge.min(BigInteger.valueOf(f.high)) : edge.max(BigInteger.valueOf(f.low));
                }
            }
            return edge;
        }

        boolean nameIsSound(int x) {
            BigInteger low = edge(x, false);
            BigInteger high = edge(x, true);
            if (low.compareTo(high) > 0 || numbers(x).size() > 1) {
                return false;
            }
            BigInteger v = number(x);
            return v == null || (low.compareTo(v) <= 0 && v.compareTo(high) <= 0);
        }

        /** Null if the rule has a free name. */
        Boolean ruleHolds(Rule rule) {
            BigInteger sum = BigInteger.ZERO;
            HashSet<BigInteger> seen = new HashSet<>();
            for (Term t : rule.terms) {
                BigInteger v = number(t.x);
                if (v == null) {
                    return null;
                }
                sum = sum.add(v.multiply(BigInteger.valueOf(t.factor)));
                seen.add(v);
            }
            if (rule.kind == 2) {
                return seen.size() == rule.terms.size();
            }
            BigInteger range = BigInteger.ONE.shiftLeft(64);
            BigInteger wrapped = sum.subtract(LEAST).mod(range).add(LEAST);
            int compared = wrapped.compareTo(BigInteger.valueOf(rule.k));
            return rule.kind == 1 ? compared == 0 : compared <= 0;
        }

        boolean rulesHold() {
            for (Rule rule : rules) {
                if (Boolean.FALSE.equals(ruleHolds(rule))) {
                    return false;
                }
            }
            return true;
        }

        boolean tell(Fact f) {
            if (!has(f.x) || !has(f.y) || (f.kind == 's' && f.low > f.high)) {
                return false;
            }
            facts.add(f);
            if (!nameIsSound(f.x) || !rulesHold()) {
                facts.remove(facts.size() - 1);
                return false;
            }
            ways = null;
            return true;
        }

        int name() {
            if (names == 64) {
                return -1;
            }
            ways = null;
            return names++;
        }

        int put(int x, long factor) {
            if (!has(x) || row.size() == 32) {
                return -1;
            }
            row.add(new Term(x, factor));
            return row.size();
        }

        List<Term> takeRow() {
            List<Term> taken = row;
            row = new ArrayList<>();
            return taken;
        }

        int keep(int kind, long k) {
            ways = null;
            Rule rule = new Rule(kind, k, takeRow());
            if (kind < 0 || kind > 2 || rules.size() == 60) {
                return -1;
            }
            if (Boolean.FALSE.equals(ruleHolds(rule))) {
                return 0;
            }
            rules.add(rule);
            return 1;
        }

        int label() {
            ways = null;
            tried = 0;
            TreeSet<Integer> seen = new TreeSet<>();
            List<Integer> free = new ArrayList<>();
            boolean unspanned = false;
            for (Term t : takeRow()) {
                if (number(t.x) == null && seen.add(ones(t.x).first())) {
                    free.add(t.x);
                    unspanned |= !hasSpan(t.x);
                }
            }
            if (unspanned) {
                return -1;
            }
            if (free.size() > 8) {
                return -2;
            }
            List<List<BigInteger>> found = new ArrayList<>();
            int stopped = tryFrom(free, 0, found);
            if (stopped != 0) {
                return stopped;
            }
            ways = found;
            labelled = free;
            return found.size();
        }

        int tryFrom(List<Integer> free, int at, List<List<BigInteger>> found) {
            if (at == free.size()) {
                if (found.size() == 200) {
                    return -4;
                }
                List<BigInteger> way = new ArrayList<>();
                for (int x : free) {
                    way.add(number(x));
                }
                found.add(way);
                return 0;
            }
            int x = free.get(at);
            BigInteger high = edge(x, true);
            int stopped = 0;
            for (BigInteger v = edge(x, false); v.compareTo(high) <= 0 && stopped == 0; v = v.add(BigInteger.ONE)) {
                if (tried == 5000) {
                    return -3;
                }
                tried++;
                facts.add(new Fact('v', x, x, v.longValueExact(), 0));
                if (rulesHold()) {
                    stopped = tryFrom(free, at + 1, found);
                }
                facts.remove(facts.size() - 1);
            }
            return stopped;
        }

        long way(int i, int j) {
            if (ways == null || i < 0 || i >= ways.size() || j < 0 || j >= labelled.size()) {
                return 0;
            }
            return ways.get(i).get(j).longValueExact();
        }

        boolean take(int i) {
            if (ways == null || i < 0 || i >= ways.size()) {
                return false;
            }
            for (int j = 0; j < labelled.size(); j++) {
                facts.add(new Fact('v', labelled.get(j), labelled.get(j), way(i, j), 0));
            }
            ways = null;
            return true;
        }

        int mark() {
            if (marks.size() == 40) {
                return -1;
            }
            marks.add(new int[] {names, facts.size(), rules.size()});
            return marks.size();
        }

        int back() {
            if (marks.isEmpty()) {
                return -1;
            }
            int[] sizes = marks.remove(marks.size() - 1);
            names = sizes[0];
            facts = new ArrayList<>(facts.subList(0, sizes[1]));
            rules = new ArrayList<>(rules.subList(0, sizes[2]));
            List<Term> stays = new ArrayList<>();
            for (Term t : row) {
                if (!has(t.x)) {
                    break;
                }
                stays.add(t);
            }
            row = stays;
            ways = null;
            return marks.size();
        }

        int about(int x, int what) {
            if (!has(x) || what < 0 || what > 4) {
                return -1;
            }
            TreeSet<Integer> ones = ones(x);
            if (what == 0) {
                return number(x) != null ? 2 : hasSpan(x) ? 1 : 0;
            }
            if (what == 1) {
                return ones.first();
            }
            if (what == 2) {
                return ones.size();
            }
            if (what == 3) {
                int found = 0;
                for (Rule rule : rules) {
                    boolean in = false;
                    for (Term t : rule.terms) {
                        in |= ones.contains(t.x);
                    }
                    found += in ? 1 : 0;
                }
                return found;
            }
            if (ways != null) {
                for (int y : labelled) {
                    if (ones.contains(y)) {
                        return 1;
                    }
                }
            }
            return 0;
        }

        long bound(int x, boolean high) {
            if (!has(x)) {
                return 0;
            }
            BigInteger v = number(x);
            return (v != null ? v : edge(x, high)).longValueExact();
        }

        int kept(int i, int what) {
            if (i < 0 || i >= rules.size() || what < 0 || what > 2) {
                return -1;
            }
            Rule rule = rules.get(i);
            if (what == 0) {
                return rule.kind;
            }
            if (what == 1) {
                return rule.terms.size();
            }
            int free = 0;
            for (Term t : rule.terms) {
                free += number(t.x) == null ? 1 : 0;
            }
            return free;
        }

        int count(int what) {
            switch (what) {
                case 0: return names;
                case 1: return rules.size();
                case 2: return marks.size();
                case 3: return row.size();
                case 4: return ways == null ? 0 : ways.size();
                case 5: return ways == null ? 0 : labelled.size();
                case 6: return tried;
                default: return -1;
            }
        }
    }

    private static int wrong = 0;
    private static final int[] labelAnswers = new int[6];

    private final Random random;
    private final Model model = new Model();
    private final SpanRows rows = new SpanRows();
    private final StringBuilder told = new StringBuilder();
    private final int run;
    // Few names make contradictions and names that are one common; many reach the limits.
    private final int usualNames;
    private boolean failed = false;

    private ModelTest(int run) {
        this.run = run;
        random = new Random(run);
        usualNames = run % 10 == 0 ? 70 : 2 + run % 9;
    }

    private long due(String call, long got, long want) {
        told.append(call).append(" = ").append(got).append('\n');
        if (got != want && !failed) {
            failed = true;
            wrong++;
            System.out.println("run " + run + ":\n" + told + "due is " + want);
        }
        return want;
    }

    private static long flag(boolean b) {
        return b ? 1 : 0;
    }

    private int someName() {
        if (random.nextInt(60) == 0) {
            return random.nextBoolean() ? random.nextInt() : random.nextInt(70) - 2;
        }
        return model.names == 0 ? 0 : random.nextInt(model.names);
    }

    private long someNumber() {
        switch (random.nextInt(40)) {
            case 0: return random.nextLong();
            case 1: return Long.MAX_VALUE - random.nextInt(3);
            case 2: return Long.MIN_VALUE + random.nextInt(3);
            default: return random.nextInt(10) - 3;
        }
    }

    private long someFactor() {
        return random.nextInt(15) == 0 ? someNumber() : random.nextInt(5) - 2;
    }

    private int someIndex() {
        return random.nextInt(40) == 0 ? random.nextInt() : random.nextInt(10) - 1;
    }

    private void makeSpan(int x) {
        long low = someNumber();
        long high = random.nextInt(8) == 0 ? someNumber() : low + random.nextInt(random.nextInt(30) == 0 ? 6000 : 7);
        due("span(" + x + ", " + low + ", " + high + ")", flag(rows.span(x, low, high)),
            flag(model.tell(new Fact('s', x, x, low, high))));
    }

    private void putSome() {
        int most = random.nextInt(30) == 0 ? 36 : random.nextInt(5);
        for (int i = 0; i < most; i++) {
            int x = someName();
            long factor = someFactor();
            due("put(" + x + ", " + factor + ")", rows.put(x, factor), model.put(x, factor));
        }
    }

    private void spanAndPutMany() {
        for (int x = 0; x < model.names && x < 12; x++) {
            if (model.about(x, 0) == 0 && random.nextInt(20) > 0) {
                makeSpan(x);
            }
            due("put(" + x + ", 1)", rows.put(x, 1), model.put(x, 1));
        }
    }

    private void keepOne() {
        int kind = random.nextInt(30) == 0 ? random.nextInt(7) - 3 : random.nextInt(3);
        long k = someNumber();
        due("keep(" + kind + ", " + k + ")", rows.keep(kind, k), model.keep(kind, k));
    }

    private void labelOnce() {
        if (random.nextInt(4) == 0) {
            spanAndPutMany();
        } else {
            for (int i = random.nextInt(5); i > 0; i--) {
                makeSpan(someName());
            }
            putSome();
        }
        int answer = (int) due("label()", rows.label(), model.label());
        labelAnswers[Math.min(answer, 1) + 4]++;
    }

    private void oneCall() {
        int x = someName();
        int y = someName();
        long v = someNumber();
        int i = someIndex();
        switch (random.nextInt(16)) {
            case 0:
            case 1:
                if (model.names < usualNames) {
                    due("name()", rows.name(), model.name());
                }
                break;
            case 2:
            case 3:
                makeSpan(x);
                break;
            case 4:
            case 5:
                due("give(" + x + ", " + v + ")", flag(rows.give(x, v)), flag(model.tell(new Fact('v', x, x, v, 0))));
                break;
            case 6:
                due("equal(" + x + ", " + y + ")", flag(rows.equal(x, y)), flag(model.tell(new Fact('=', x, y, 0, 0))));
                break;
            case 7:
                putSome();
                break;
            case 8:
            case 9:
                putSome();
                keepOne();
                break;
            case 10:
                labelOnce();
                break;
            case 11:
                due("take(" + i + ")", flag(rows.take(i)), flag(model.take(i)));
                break;
            case 12:
            case 13:
                due("mark()", rows.mark(), model.mark());
                break;
            default:
                due("back()", rows.back(), model.back());
                break;
        }
    }

    private void askAll() {
        for (int what = -1; what <= 7; what++) {
            due("count(" + what + ")", rows.count(what), model.count(what));
        }
        for (int x = -1; x <= model.names; x++) {
            for (int what = -1; what <= 5; what++) {
                due("about(" + x + ", " + what + ")", rows.about(x, what), model.about(x, what));
            }
            due("bound(" + x + ", false)", rows.bound(x, false), model.bound(x, false));
            due("bound(" + x + ", true)", rows.bound(x, true), model.bound(x, true));
        }
        for (int i = -1; i <= model.rules.size(); i++) {
            for (int what = -1; what <= 3; what++) {
                due("kept(" + i + ", " + what + ")", rows.kept(i, what), model.kept(i, what));
            }
        }
        for (int i = -1; i <= model.count(4); i++) {
            for (int j = -1; j <= model.count(5); j++) {
                due("way(" + i + ", " + j + ")", rows.way(i, j), model.way(i, j));
            }
        }
    }

    private void runAll() {
        // SpanRows does not count its calls, so questions may go beyond the 512 that are promised.
        int most = run % 25 == 0 ? CALLS : CALLS / 8;
        for (int calls = 0; calls < most && !failed; calls++) {
            oneCall();
            if (random.nextInt(6) == 0 || model.ways != null) {
                int length = told.length();
                askAll();
                if (!failed) {
                    told.setLength(length);
                }
            }
        }
    }

    public static void main(String[] args) {
        int runs = args.length > 0 ? Integer.parseInt(args[0]) : RUNS;
        for (int run = 0; run < runs && wrong < 3; run++) {
            new ModelTest(run).runAll();
        }
        System.out.println("label() answered -4, -3, -2, NONE, 0, a number of ways: "
            + java.util.Arrays.toString(labelAnswers));
        System.out.println(wrong == 0 ? "all runs are as the model's" : wrong + " runs are not as the model's");
        if (wrong != 0) {
            System.exit(1);
        }
    }
}
