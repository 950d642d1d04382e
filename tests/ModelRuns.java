import java.math.BigInteger;
import java.nio.charset.StandardCharsets;
import java.util.ArrayDeque;
import java.util.ArrayList;
import java.util.Arrays;
import java.util.HashMap;
import java.util.HashSet;
import java.util.List;
import java.util.Map;
import java.util.Random;
import java.util.Set;

/** Long runs of random calls (always the same ones) on an object and on a plain model of the document. */
public final class ModelRuns {
    private static final int RUNS = 3000;
    private static int wrong = 0;
    private static final Map<String, Integer> seen = new HashMap<>();

    public static void main(String[] args) {
        for (int run = 0; run < RUNS && wrong < 20; run++) {
            new Driver(run).drive();
        }
        // A run that never comes to these answers would test little.
        for (String must : new String[] {"step 0", "step 1", "step 2", "step 3", "chances 0", "chances -2",
                "chances -1", "elected", "barred", "fault 0", "fault 1", "fault 2", "fault 3", "passed over",
                "protest", "brute", "some fail, some fill"}) {
            if (!seen.containsKey(must)) {
                wrong++;
                System.out.println("never seen: " + must);
            }
        }
        System.out.println(wrong == 0 ? "all answers are as the model's " + seen : wrong + " answers are wrong");
        if (wrong != 0) {
            System.exit(1);
        }
    }

    private static void mark(String what) {
        seen.merge(what, 1, Integer::sum);
    }

    private record Step(char kind, int n, int m, int h) { }

    private static final class Citizen {
        int house;
        int party;
        boolean there = true;

        Citizen(int house, int party) {
            this.house = house;
            this.party = party;
        }
    }

    /** The document's words in their plainest form. */
    private static final class Model {
        final List<Citizen> citizens = new ArrayList<>();
        final Set<Set<Integer>> told = new HashSet<>();
        final Set<List<Integer>> yes = new HashSet<>();
        String tape = "";
        List<Step> steps = List.of();
        final List<List<Integer>> bodies = new ArrayList<>();
        final ArrayDeque<Integer> lots = new ArrayDeque<>();
        int used = 0;
        int head = -1;
        boolean tried = false;
        int barred;
        int chosen;
        final Map<Integer, Integer> votes = new HashMap<>();
        BigInteger[] ways = null;

        Model() {
            for (int p = 0; p < 4; p++) {
                yes.add(List.of(p, p));
            }
        }

        boolean has(int c) {
            return c >= 0 && c < citizens.size();
        }

        List<Integer> now() {
            if (!bodies.isEmpty()) {
                return bodies.get(bodies.size() - 1);
            }
            List<Integer> all = new ArrayList<>();
            for (int c = 0; c < citizens.size(); c++) {
                if (citizens.get(c).there) {
                    all.add(c);
                }
            }
            return all;
        }

        boolean related(int a, int b) {
            return a != b && (citizens.get(a).house == citizens.get(b).house || told.contains(Set.of(a, b)));
        }

        int citizen(int house, int party) {
            if (citizens.size() == 40 || house < 0 || house > 11 || party < 0 || party > 3 || !bodies.isEmpty()) {
                return -1;
            }
            citizens.add(new Citizen(house, party));
            return citizens.size() - 1;
        }

        boolean there(int c, boolean is) {
            if (!has(c)) {
                return false;
            }
            boolean was = citizens.get(c).there;
            citizens.get(c).there = is;
            return was != is;
        }

        boolean kin(int a, int b) {
            return has(a) && has(b) && a != b && told.size() < 60 && told.add(Set.of(a, b));
        }

        boolean says(int voters, int party, boolean is) {
            if (voters < 0 || voters > 3 || party < 0 || party > 3) {
                return false;
            }
            return is ? yes.add(List.of(voters, party)) : yes.remove(List.of(voters, party));
        }

        boolean turn(int c, int house, int party) {
            if (!has(c) || house < 0 || house > 11 || party < 0 || party > 3) {
                return false;
            }
            citizens.get(c).house = house;
            citizens.get(c).party = party;
            return true;
        }

        int feed(int... five) {
            if (tape.length() > 280) {
                return -1;
            }
            for (int four : five) {
                for (int i = 3; i >= 0; i--) {
                    tape += (char) (four >> 8 * i & 255);
                }
            }
            return tape.length();
        }

        int end(int n) {
            if (n < 0 || n > tape.length()) {
                return -1;
            }
            tape = tape.substring(0, n);
            return n;
        }

        int procedure() {
            Text text = new Text(tape);
            tape = "";
            int fault = text.fault();
            if (fault != 0) {
                mark("fault " + (fault - 1) % 8);
                return -2 - fault;
            }
            steps = text.steps;
            bodies.clear();
            head = -1;
            return steps.size();
        }

        int lot(int v) {
            if (lots.size() == 500 || v < 0 || v > 9999) {
                return -1;
            }
            lots.addLast(v);
            return lots.size();
        }

        int step() {
            if (bodies.size() == steps.size()) {
                return 3;
            }
            Step step = steps.get(bodies.size());
            if (step.kind == 'd') {
                return draw(step.n);
            }
            List<Integer> picked = vote(step);
            if (picked.size() < step.n) {
                return 2;
            }
            if (step.kind == 'e') {
                head = picked.get(0);
                bodies.add(now());
                mark("elected");
            } else {
                bodies.add(picked);
            }
            return 0;
        }

        private int draw(int n) {
            List<Integer> left = new ArrayList<>(now());
            if (left.size() < n) {
                return 2;
            }
            ArrayDeque<Integer> rest = new ArrayDeque<>(lots);
            List<Integer> drawn = new ArrayList<>();
            boolean passed = false;
            while (drawn.size() < n) {
                if (rest.isEmpty()) {
                    return 1;
                }
                int v = rest.removeFirst();
                if (v < 10000 - 10000 % left.size()) {
                    drawn.add(left.remove(v % left.size()));
                } else {
                    passed = true;
                }
            }
            if (passed) {
                mark("passed over");
            }
            used += lots.size() - rest.size();
            lots.clear();
            lots.addAll(rest);
            bodies.add(drawn);
            return 0;
        }

        private List<Integer> vote(Step step) {
            tried = true;
            barred = 0;
            votes.clear();
            List<Integer> picked = new ArrayList<>();
            for (int c = 0; c < citizens.size() && picked.size() < step.n; c++) {
                Citizen he = citizens.get(c);
                if (!he.there) {
                    continue;
                }
                long ofHouse = picked.stream().filter(p -> citizens.get(p).house == he.house).count();
                if (step.h > 0 && ofHouse >= step.h) {
                    barred++;
                    mark("barred");
                    continue;
                }
                int self = c;
                int n = (int) now().stream().filter(v -> v != self && citizens.get(v).there && !related(v, self)
                        && yes.contains(List.of(citizens.get(v).party, he.party))).count();
                votes.put(c, n);
                if (n >= step.m) {
                    picked.add(c);
                }
            }
            chosen = picked.size();
            return picked;
        }

        boolean protest(int k) {
            if (k < 0 || k >= bodies.size()) {
                return false;
            }
            while (bodies.size() > k) {
                bodies.remove(bodies.size() - 1);
            }
            head = -1;
            mark("protest");
            return true;
        }

        int body(int k) {
            List<Integer> b = now();
            return k >= 0 && k < b.size() ? b.get(k) : -1;
        }

        int ballot(int what) {
            if (!tried) {
                return -1;
            }
            return what == 0 ? barred : what == 1 ? votes.size() : what == 2 ? chosen : votes.getOrDefault(what - 100, -1);
        }

        int chances() {
            if (bodies.size() == steps.size()) {
                return -1;
            }
            BigInteger[] got = new Counter(this).count();
            if (got == null) {
                return -2;
            }
            ways = got;
            return 0;
        }

        long ways(int c) {
            return ways == null || c < 0 || c > 41 ? -1 : ways[c].longValueExact();
        }

        int about(int c, int what) {
            if (!has(c)) {
                return -1;
            }
            int related = 0;
            for (int o = 0; o < citizens.size(); o++) {
                related += related(c, o) ? 1 : 0;
            }
            Citizen he = citizens.get(c);
            return what == 0 ? he.house : what == 1 ? he.party : what == 2 ? (he.there ? 1 : 0) : what == 3 ? related : -1;
        }

        int count(int what) {
            int there = (int) citizens.stream().filter(c -> c.there).count();
            int[] all = {citizens.size(), there, told.size(), steps.size(), bodies.size(), now().size(), lots.size(),
                used, tape.length()};
            return what >= 0 && what < all.length ? all[what] : -1;
        }
    }

    /** A text cut into its signs first, and read as a row of signs then. */
    private static final class Text {
        final List<String> signs = new ArrayList<>();
        final List<Integer> places = new ArrayList<>();
        final List<Step> steps = new ArrayList<>();
        final int length;
        int at = 0;

        Text(String text) {
            length = text.length();
            int i = 0;
            while (i < length) {
                int j = i + 1;
                String kind = text.charAt(i) >= 'a' && text.charAt(i) <= 'z' ? "[a-z]+" : "[0-9]+";
                while (j < length && text.substring(i, j + 1).matches(kind)) {
                    j++;
                }
                if (text.charAt(i) != ' ') {
                    signs.add(text.substring(i, j));
                    places.add(i);
                }
                i = j;
            }
        }

        String sign() {
            return at < signs.size() ? signs.get(at) : "";
        }

        int bad(int kind) {
            return 1 + 8 * (at < signs.size() ? places.get(at) : length) + kind;
        }

        /** 0, or the fault of the number at hand. */
        int number(int high, int met) {
            if (!sign().matches("[0-9]+")) {
                return bad(0);
            }
            if (!sign().matches("[0-9]{1,2}") || Integer.parseInt(sign()) < 1 || Integer.parseInt(sign()) > high) {
                return bad(1);
            }
            return Integer.parseInt(sign()) > met ? bad(3) : 0;
        }

        int fault() {
            int body = 40;
            while (true) {
                String word = sign();
                boolean fits = steps.isEmpty() ? word.equals("draw") : word.matches("draw|choose|elect");
                if (!fits) {
                    return bad(0);
                }
                if (steps.size() == 12) {
                    return bad(2);
                }
                at++;
                int n = 1;
                int m = 0;
                int h = 0;
                if (!word.equals("elect")) {
                    int f = number(40, word.equals("draw") ? body : 40);
                    if (f != 0) {
                        return f;
                    }
                    n = Integer.parseInt(signs.get(at++));
                }
                if (!word.equals("draw")) {
                    if (!sign().equals("by")) {
                        return bad(0);
                    }
                    at++;
                    int f = number(40, body);
                    if (f != 0) {
                        return f;
                    }
                    m = Integer.parseInt(signs.get(at++));
                }
                if (word.equals("choose") && sign().equals("house")) {
                    at++;
                    int f = number(9, 9);
                    if (f != 0) {
                        return f;
                    }
                    h = Integer.parseInt(signs.get(at++));
                }
                steps.add(new Step(word.charAt(0), n, m, h));
                body = n;
                if (word.equals("elect")) {
                    return at < signs.size() ? bad(0) : 0;
                }
                if (!sign().equals(";")) {
                    return bad(0);
                }
                at++;
            }
        }
    }

    /** Counts ways over rows of sets: each set by itself where that is few, else by parties. */
    private static final class Counter {
        private static final BigInteger MOST = BigInteger.TEN.pow(15);
        final Model model;
        final List<Step> to;
        final BigInteger[] ways = new BigInteger[42];
        final List<Set<List<Integer>>> unlike = new ArrayList<>();

        Counter(Model model) {
            this.model = model;
            to = model.steps.subList(model.bodies.size(), model.steps.size());
            Arrays.fill(ways, BigInteger.ZERO);
            for (int i = 0; i < to.size(); i++) {
                unlike.add(new HashSet<>());
            }
        }

        BigInteger[] count() {
            int size = model.now().size();
            BigInteger all = laterSets(0, size);
            if (all.compareTo(MOST) > 0) {
                return null;
            }
            ways[41] = all;
            if (all.compareTo(BigInteger.valueOf(3000)) <= 0) {
                mark("brute");
                walk(0, parties(model.now()));
            } else {
                Map<List<Integer>, BigInteger> first = new HashMap<>();
                first.put(byParty(parties(model.now())), BigInteger.ONE);
                spread(first);
            }
            for (int i = 0; i + 1 < to.size(); i++) {
                if (unlike.get(i).size() > 600) {
                    return null;
                }
            }
            BigInteger sum = BigInteger.ZERO;
            for (int i = 0; i <= 40; i++) {
                sum = sum.add(ways[i]);
            }
            if (!sum.equals(all)) {
                throw new IllegalStateException("the model's ways don't add up");
            }
            if (ways[40].signum() > 0 && !ways[40].equals(all)) {
                mark("some fail, some fill");
            }
            return ways;
        }

        private List<Integer> parties(List<Integer> body) {
            List<Integer> parties = new ArrayList<>();
            for (int c : body) {
                parties.add(model.citizens.get(c).party);
            }
            return parties;
        }

        private static List<Integer> byParty(List<Integer> parties) {
            Integer[] n = {0, 0, 0, 0};
            for (int p : parties) {
                n[p]++;
            }
            return List.of(n);
        }

        /** The sets of draws from step i on, one times the other. */
        private BigInteger laterSets(int i, int size) {
            BigInteger all = BigInteger.ONE;
            for (int j = i; j < to.size(); j++) {
                if (to.get(j).kind == 'd' && to.get(j).n <= size) {
                    all = all.multiply(choose(size, to.get(j).n));
                }
                size = to.get(j).n;
            }
            return all;
        }

        private static BigInteger choose(int n, int k) {
            BigInteger c = BigInteger.ONE;
            for (int i = 0; i < k; i++) {
                c = c.multiply(BigInteger.valueOf(n - i)).divide(BigInteger.valueOf(i + 1));
            }
            return c;
        }

        private void miss(int i, BigInteger n) {
            ways[40] = ways[40].add(n.multiply(laterSets(i + 1, to.get(i).n)));
        }

        /** Who would be picked by a body of so many of each party. */
        private List<Integer> pick(Step step, List<Integer> has) {
            List<Integer> picked = new ArrayList<>();
            for (int c = 0; c < model.citizens.size() && picked.size() < step.n; c++) {
                Citizen he = model.citizens.get(c);
                int n = 0;
                for (int p = 0; p < 4; p++) {
                    n += model.yes.contains(List.of(p, he.party)) ? has.get(p) : 0;
                }
                if (he.there && n >= step.m) {
                    picked.add(c);
                }
            }
            return picked;
        }

        private void walk(int i, List<Integer> body) {
            Step step = to.get(i);
            if (step.kind == 'd') {
                if (body.size() < step.n) {
                    miss(i, BigInteger.ONE);
                } else {
                    sets(i, body, 0, new ArrayList<>());
                }
                return;
            }
            List<Integer> picked = pick(step, byParty(body));
            if (picked.size() < step.n) {
                miss(i, BigInteger.ONE);
            } else if (step.kind == 'e') {
                ways[picked.get(0)] = ways[picked.get(0)].add(BigInteger.ONE);
            } else {
                unlike.get(i).add(byParty(parties(picked)));
                walk(i + 1, parties(picked));
            }
        }

        private void sets(int i, List<Integer> body, int from, List<Integer> set) {
            int n = to.get(i).n;
            if (set.size() == n) {
                unlike.get(i).add(byParty(set));
                walk(i + 1, new ArrayList<>(set));
                return;
            }
            for (int k = from; k <= body.size() - (n - set.size()); k++) {
                set.add(body.get(k));
                sets(i, body, k + 1, set);
                set.remove(set.size() - 1);
            }
        }

        private void spread(Map<List<Integer>, BigInteger> ahead) {
            for (int i = 0; i < to.size(); i++) {
                Step step = to.get(i);
                Map<List<Integer>, BigInteger> behind = new HashMap<>();
                for (Map.Entry<List<Integer>, BigInteger> e : ahead.entrySet()) {
                    if (step.kind == 'd') {
                        drawByParty(i, e.getKey(), e.getValue(), behind);
                        continue;
                    }
                    List<Integer> picked = pick(step, e.getKey());
                    if (picked.size() < step.n) {
                        miss(i, e.getValue());
                    } else if (step.kind == 'e') {
                        ways[picked.get(0)] = ways[picked.get(0)].add(e.getValue());
                    } else {
                        behind.merge(byParty(parties(picked)), e.getValue(), BigInteger::add);
                    }
                }
                unlike.get(i).addAll(behind.keySet());
                ahead = behind;
                if (ahead.size() > 600) {
                    // What follows can't matter: it is spent. The sum must hold all the same.
                    BigInteger rest = ahead.values().stream().reduce(BigInteger.ZERO, BigInteger::add);
                    ways[40] = ways[40].add(rest.multiply(laterSets(i + 1, step.n)));
                    return;
                }
            }
        }

        private void drawByParty(int i, List<Integer> has, BigInteger n, Map<List<Integer>, BigInteger> behind) {
            int want = to.get(i).n;
            if (has.stream().mapToInt(x -> x).sum() < want) {
                miss(i, n);
                return;
            }
            for (int a = 0; a <= has.get(0); a++) {
                for (int b = 0; b <= has.get(1); b++) {
                    for (int c = 0; c <= has.get(2); c++) {
                        int d = want - a - b - c;
                        if (d < 0 || d > has.get(3)) {
                            continue;
                        }
                        BigInteger m = n.multiply(choose(has.get(0), a)).multiply(choose(has.get(1), b))
                                .multiply(choose(has.get(2), c)).multiply(choose(has.get(3), d));
                        behind.merge(List.of(a, b, c, d), m, BigInteger::add);
                    }
                }
            }
        }
    }

    /** One run of up to 512 calls. */
    private static final class Driver {
        final int run;
        final Random random;
        final ElectionHouse x = new ElectionHouse();
        final Model m = new Model();
        int calls = 0;

        Driver(int run) {
            this.run = run;
            random = new Random(run);
        }

        int below(int n) {
            return random.nextInt(n);
        }

        /** Mostly of 0 to n - 1, at times a bit beside it or far off. */
        int around(int n) {
            int r = below(40);
            return r == 0 ? -1 : r == 1 ? n : r == 2 ? random.nextInt() : below(Math.max(1, n));
        }

        void due(String call, long got, long want) {
            calls++;
            if (got != want && wrong < 20) {
                wrong++;
                System.out.println("run " + run + ", call " + calls + ": " + call + " answered " + got + ", model " + want);
            }
        }

        void due(String call, boolean got, boolean want) {
            due(call, got ? 1 : 0, want ? 1 : 0);
        }

        void drive() {
            int size = new int[] {3, 6, 9, 14, 25, 40, 41}[below(7)];
            int parties = 1 + below(4);
            int houses = 1 + below(12);
            for (int i = 0; i < size; i++) {
                citizen(below(houses), below(parties));
            }
            for (int i = below(5); i > 0; i--) {
                says(below(4), below(4), true);
            }
            while (calls < 470 && wrong < 20) {
                one();
            }
            look();
        }

        void one() {
            switch (below(22)) {
                case 0 -> citizen(around(12), around(4));
                case 1 -> there(around(m.citizens.size()), below(3) > 0);
                case 2 -> kin(around(m.citizens.size()), around(m.citizens.size()));
                case 3 -> says(around(4), around(4), below(4) > 0);
                case 4 -> turn(around(m.citizens.size()), around(12), around(4));
                case 5 -> feedRandom();
                case 6 -> end(around(m.tape.length() + 1));
                case 7 -> text(below(4) == 0 ? spoilt() : good());
                case 8, 9, 10 -> {
                    for (int i = below(25); i > 0; i--) {
                        lot(below(4) == 0 ? 9950 + below(50) : around(10000));
                    }
                }
                case 11, 12, 13, 14, 15 -> step();
                case 16 -> protest(around(13));
                case 17, 18 -> chances();
                default -> ask();
            }
        }

        void citizen(int a, int b) {
            due("citizen(" + a + ", " + b + ")", x.citizen(a, b), m.citizen(a, b));
        }

        void there(int c, boolean is) {
            due("there(" + c + ", " + is + ")", x.there(c, is), m.there(c, is));
        }

        void kin(int a, int b) {
            due("kin(" + a + ", " + b + ")", x.kin(a, b), m.kin(a, b));
        }

        void says(int a, int b, boolean is) {
            due("says(" + a + ", " + b + ", " + is + ")", x.says(a, b, is), m.says(a, b, is));
        }

        void turn(int a, int b, int c) {
            due("turn(" + a + ", " + b + ", " + c + ")", x.turn(a, b, c), m.turn(a, b, c));
        }

        void feedRandom() {
            int a = random.nextInt();
            int b = random.nextInt();
            due("feed", x.feed(a, b, 3, 4, a), m.feed(a, b, 3, 4, a));
        }

        void end(int n) {
            due("end(" + n + ")", x.end(n), m.end(n));
        }

        void lot(int v) {
            due("lot(" + v + ")", x.lot(v), m.lot(v));
        }

        void step() {
            int want = m.step();
            mark("step " + want);
            due("step()", x.step(), want);
            for (int what = 4; what <= 7; what++) {
                due("count(" + what + ")", x.count(what), m.count(what));
            }
            due("body", x.body(0), m.body(0));
        }

        void protest(int k) {
            due("protest(" + k + ")", x.protest(k), m.protest(k));
            due("count(5)", x.count(5), m.count(5));
        }

        void chances() {
            int want = m.chances();
            mark("chances " + want);
            due("chances()", x.chances(), want);
            due("ways(40)", x.ways(40), m.ways(40));
            due("ways(41)", x.ways(41), m.ways(41));
            for (int i = 0; i < 3; i++) {
                int c = around(42);
                due("ways(" + c + ")", x.ways(c), m.ways(c));
            }
        }

        void ask() {
            int c = around(40);
            int what = around(4);
            due("about(" + c + ", " + what + ")", x.about(c, what), m.about(c, what));
            what = around(9);
            due("count(" + what + ")", x.count(what), m.count(what));
            due("body(" + c + ")", x.body(c), m.body(c));
            due("elected()", x.elected(), m.head);
            what = around(4);
            due("ballot(" + what + ")", x.ballot(what), m.ballot(what));
            what = 99 + around(42);
            due("ballot(" + what + ")", x.ballot(what), m.ballot(what));
        }

        /** Every citizen and every place of the body at the end (an object answers 512 calls). */
        void look() {
            for (int c = 0; c < 40 && calls < 512; c++) {
                due("ways(" + c + ")", x.ways(c), m.ways(c));
            }
        }

        void text(String text) {
            byte[] bytes = text.getBytes(StandardCharsets.ISO_8859_1);
            end(0);
            for (int at = 0; at < bytes.length && at < 300; at += 20) {
                int[] f = new int[5];
                for (int i = 0; i < 20; i++) {
                    f[i / 4] = f[i / 4] << 8 | (at + i < bytes.length ? bytes[at + i] & 255 : 0);
                }
                due("feed", x.feed(f[0], f[1], f[2], f[3], f[4]), m.feed(f[0], f[1], f[2], f[3], f[4]));
            }
            end(bytes.length);
            due("procedure() of " + text, x.procedure(), m.procedure());
            due("count(3)", x.count(3), m.count(3));
        }

        String blanks() {
            return below(5) == 0 ? "  " : "";
        }

        /** A procedure whose numbers can mostly be met. */
        String good() {
            int all = Math.max(1, m.count(1) + (below(8) == 0 ? 1 : 0));
            int body = Math.min(40, 1 + below(all));
            StringBuilder s = new StringBuilder(blanks()).append("draw ").append(body);
            int more = below(4) == 0 ? below(12) : below(4);
            for (int i = 0; i < more; i++) {
                s.append(blanks()).append(";").append(blanks());
                if (below(2) == 0) {
                    body = body - below((body + 2) / 2);
                    s.append("draw ").append(body);
                } else {
                    int n = Math.min(40, 1 + below(Math.max(1, all * 2 / 3)));
                    s.append("choose ").append(n).append(" by ").append(1 + below(Math.max(1, body / 3)));
                    if (below(3) == 0) {
                        s.append(" house ").append(1 + below(below(2) == 0 ? 2 : 9));
                    }
                    body = n;
                }
            }
            return s.append(";elect by ").append(1 + below(Math.max(1, body / 2))).append(blanks()).toString();
        }

        /** A good one with some bytes gone, doubled or changed. */
        String spoilt() {
            StringBuilder s = new StringBuilder(good());
            for (int i = 1 + below(3); i > 0 && s.length() > 0; i--) {
                int at = below(s.length());
                String some = "0123456789 ;;drawchoselctbyhu\0\u00ffAZ`{/:";
                switch (below(4)) {
                    case 0 -> s.deleteCharAt(at);
                    case 1 -> s.insert(at, some.charAt(below(some.length())));
                    case 2 -> s.setCharAt(at, some.charAt(below(some.length())));
                    default -> s.setLength(at);
                }
            }
            return s.toString();
        }
    }
}
