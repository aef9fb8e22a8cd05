import java.util.ArrayDeque;
import java.util.ArrayList;
import java.util.Arrays;
import java.util.Deque;
import java.util.HashMap;
import java.util.HashSet;
import java.util.List;
import java.util.Map;
import java.util.Random;
import java.util.Set;

/** Long runs of calls, each answer set against a slow model that follows the document's words world by world. */
public final class ModelTest {
    static final int NONE = -1, UNKNOWN = -1000000001, OUTSIDE = -1000000002, NOT = -1000000003, FULL = -1000000004;

    /** I and J are null for a clause. */
    record Step(Set<Integer> p, Set<Integer> n, int party, Integer i, Integer j, int letter) {
        boolean empty() {
            return p.isEmpty() && n.isEmpty();
        }

        boolean holds(int world) {
            for (int letter : p) {
                if (so(world, letter)) {
                    return true;
                }
            }
            for (int letter : n) {
                if (!so(world, letter)) {
                    return true;
                }
            }
            return false;
        }
    }

    record Sum(int party, int[] numbers) { }

    static boolean so(int world, int letter) {
        return (world & 1 << letter) != 0;
    }

    static Set<Integer> set(int bits) {
        Set<Integer> set = new HashSet<>();
        for (int k = 0; k < 31; k++) {
            if ((bits & 1 << k) != 0) {
                set.add(k);
            }
        }
        return set;
    }

    static int bits(Set<Integer> set) {
        int bits = 0;
        for (int k : set) {
            bits |= 1 << k;
        }
        return bits;
    }

    static final class Model {
        StringBuilder text = new StringBuilder();
        List<Step> steps = new ArrayList<>();
        Deque<List<Step>> past = new ArrayDeque<>();
        Map<Integer, List<Step>> images = new HashMap<>();
        List<Sum> sums = new ArrayList<>();
        List<Integer> weights = new ArrayList<>();
        int fault = NONE;

        int feed(int letter) {
            if (letter < 0 || letter > 255) return OUTSIDE;
            if (text.length() == 240) return FULL;
            text.append((char) letter);
            return text.length();
        }

        static Step made(List<Step> steps, int i, int j, int letter) {
            Step a = steps.get(i);
            Step b = steps.get(j);
            if (!a.p.contains(letter) || !b.n.contains(letter)) return null;
            Set<Integer> p = new HashSet<>(a.p);
            p.addAll(b.p);
            p.remove(letter);
            Set<Integer> n = new HashSet<>(a.n);
            n.addAll(b.n);
            n.remove(letter);
            for (int k : p) {
                if (n.contains(k)) return null;
            }
            return new Step(p, n, NONE, i, j, letter);
        }

        /** All tokens first (at, text), then the grammar over them: the end is a token, too. */
        int parties() {
            List<Integer> ats = new ArrayList<>();
            List<String> tokens = new ArrayList<>();
            String t = text.toString();
            text = new StringBuilder();
            int k = 0;
            while (k < t.length()) {
                int end = k + 1;
                if (Character.isDigit(t.charAt(k)) && t.charAt(k) < 128) {
                    while (end < t.length() && t.charAt(end) >= '0' && t.charAt(end) <= '9') end++;
                }
                if (t.charAt(k) != ' ') {
                    ats.add(k);
                    tokens.add(t.substring(k, end));
                }
                k = end;
            }
            ats.add(t.length());
            tokens.add("");
            List<Step> read = new ArrayList<>();
            int made = 0;
            int c = 0;
            while (!tokens.get(c).isEmpty()) {
                String word = tokens.get(c);
                int need = word.equals("r") ? 3 : word.equals("a") || word.equals("b") ? 2 : 0;
                if (need == 0) return faulty(1, ats.get(c));
                if (need == 2 && made > 0) return faulty(1, ats.get(c));
                if (need == 2 && read.size() == 10) return faulty(3, ats.get(c));
                if (need == 3 && made == 30) return faulty(3, ats.get(c));
                int[] v = new int[3];
                for (int q = 0; q < need; q++) {
                    c++;
                    String number = tokens.get(c);
                    if (!number.matches("[0-9]+")) return faulty(1, ats.get(c));
                    if (number.length() > 3) return faulty(2, ats.get(c));
                    v[q] = Integer.parseInt(number);
                    if (need == 2 && v[q] > 255) return faulty(2, ats.get(c));
                    if (need == 3 && q < 2 && v[q] >= read.size()) return faulty(2, ats.get(c));
                    if (need == 3 && q == 2 && v[q] > 7) return faulty(2, ats.get(c));
                }
                Step step;
                if (need == 2) {
                    step = (v[0] & v[1]) != 0 ? null : new Step(set(v[0]), set(v[1]), word.equals("a") ? 0 : 1, null, null, NONE);
                } else {
                    step = made(read, v[0], v[1], v[2]);
                    made++;
                }
                if (step == null) return faulty(4, ats.get(c));
                c++;
                if (!tokens.get(c).equals(";")) return faulty(1, ats.get(c));
                c++;
                read.add(step);
            }
            fault = NONE;
            steps = read;
            past.clear();
            images.clear();
            return steps.size();
        }

        int faulty(int number, int at) {
            fault = at;
            return -10 - number;
        }

        List<Step> clauses() {
            List<Step> clauses = new ArrayList<>();
            for (Step s : steps) {
                if (s.i == null) clauses.add(s);
            }
            return clauses;
        }

        int made() {
            return steps.size() - clauses().size();
        }

        int firstEmpty() {
            for (int s = 0; s < steps.size(); s++) {
                if (steps.get(s).empty()) return s;
            }
            return NONE;
        }

        boolean allHold(int world, boolean a, boolean b) {
            for (Step s : clauses()) {
                if ((s.party == 0 ? a : b) && !s.holds(world)) return false;
            }
            return true;
        }

        int worlds(boolean a, boolean b) {
            int many = 0;
            for (int world = 0; world < 256; world++) {
                if (allHold(world, a, b)) many++;
            }
            return many;
        }

        int least() {
            List<Step> clauses = clauses();
            int best = NONE;
            for (int set = 0; set < 1 << clauses.size(); set++) {
                if (best != NONE && Integer.bitCount(best) <= Integer.bitCount(set)) continue;
                boolean some = false;
                for (int world = 0; world < 256 && !some; world++) {
                    boolean all = true;
                    for (int s = 0; s < clauses.size() && all; s++) {
                        all = (set & 1 << s) == 0 || clauses.get(s).holds(world);
                    }
                    some = all;
                }
                if (!some) best = set;
            }
            return best;
        }

        int shared() {
            int shared = 0;
            for (int letter = 0; letter < 8; letter++) {
                if (colour(letter) == 2) shared |= 1 << letter;
            }
            return shared;
        }

        int told(int what) {
            return switch (what) {
                case 0 -> clauses().size();
                case 1 -> steps.size();
                case 2 -> firstEmpty();
                case 3 -> shared();
                case 4 -> worlds(true, false);
                case 5 -> worlds(false, true);
                case 6 -> worlds(true, true);
                case 7 -> least();
                case 8 -> text.length();
                case 9 -> sums.size();
                case 10 -> past.size();
                default -> OUTSIDE;
            };
        }

        int colour(int letter) {
            if (letter < 0 || letter > 7) return UNKNOWN;
            boolean[] uses = new boolean[2];
            for (Step s : clauses()) {
                if (s.p.contains(letter) || s.n.contains(letter)) uses[s.party] = true;
            }
            return uses[0] && uses[1] ? 2 : uses[0] ? 0 : uses[1] ? 1 : NONE;
        }

        boolean is(int s) {
            return s >= 0 && s < steps.size();
        }

        Set<Integer> standsOn(int s) {
            Step step = steps.get(s);
            Set<Integer> on = new HashSet<>();
            if (step.i == null) {
                on.add(s);
            } else {
                for (int t : madeOf(s)) {
                    if (steps.get(t).i == null) on.add(t);
                }
            }
            return on;
        }

        /** All steps that s was made of, itself too. */
        Set<Integer> madeOf(int s) {
            Set<Integer> of = new HashSet<>();
            Deque<Integer> open = new ArrayDeque<>();
            open.add(s);
            while (!open.isEmpty()) {
                int t = open.remove();
                if (of.add(t) && steps.get(t).i != null) {
                    open.add(steps.get(t).i);
                    open.add(steps.get(t).j);
                }
            }
            return of;
        }

        int row(int s) {
            int[] rows = new int[s + 1];
            for (int t = 0; t <= s; t++) {
                Step step = steps.get(t);
                rows[t] = step.i == null ? 1 : 1 + Math.max(rows[step.i], rows[step.j]);
            }
            return rows[s];
        }

        int step(int s, int what) {
            if (!is(s)) return UNKNOWN;
            Step step = steps.get(s);
            return switch (what) {
                case 0 -> bits(step.p);
                case 1 -> bits(step.n);
                case 2 -> step.party;
                case 3 -> step.i == null ? NONE : step.i;
                case 4 -> step.j == null ? NONE : step.j;
                case 5 -> step.letter;
                case 6 -> bits(standsOn(s));
                case 7 -> row(s);
                default -> OUTSIDE;
            };
        }

        int holds(int s, int world) {
            if (!is(s)) return UNKNOWN;
            if (world < 0 || world > 255) return OUTSIDE;
            return steps.get(s).holds(world) ? 1 : 0;
        }

        void remember() {
            past.addLast(new ArrayList<>(steps));
            if (past.size() > 8) past.removeFirst();
        }

        int resolve(int i, int j, int letter) {
            if (!is(i) || !is(j) || i == j || letter < 0 || letter > 7) return UNKNOWN;
            Step made = made(steps, i, j, letter);
            if (made == null) return NOT;
            if (made() == 30) return FULL;
            remember();
            steps.add(made);
            return steps.size() - 1;
        }

        int seek() {
            List<Step> before = new ArrayList<>(steps);
            seekOn();
            if (steps.size() > before.size()) {
                past.addLast(before);
                if (past.size() > 8) past.removeFirst();
            }
            return steps.size() - before.size();
        }

        /** Begins anew behind each step that is made: the first that can come in the document's order comes. */
        void seekOn() {
            boolean came = true;
            while (came && made() < 30) {
                came = false;
                for (int j = 0; j < steps.size() && !came; j++) {
                    for (int i = 0; i < j && !came; i++) {
                        for (int letter = 0; letter < 8 && !came; letter++) {
                            Step made = made(steps, i, j, letter);
                            if (made == null) made = made(steps, j, i, letter);
                            if (made != null && !covered(made)) {
                                steps.add(made);
                                came = true;
                                if (made.empty()) return;
                            }
                        }
                    }
                }
            }
        }

        boolean covered(Step made) {
            for (Step s : steps) {
                if (made.p.containsAll(s.p) && made.n.containsAll(s.n)) return true;
            }
            return false;
        }

        int undo() {
            if (past.isEmpty()) return NOT;
            steps = past.removeLast();
            return past.size();
        }

        boolean[] says(int system, int s) {
            boolean[][] says = new boolean[s + 1][256];
            for (int t = 0; t <= s; t++) {
                Step step = steps.get(t);
                for (int world = 0; world < 256; world++) {
                    says[t][world] = step.i == null ? clauseSays(system, step, world)
                            : stepSays(system, step, world, says[step.i][world], says[step.j][world]);
                }
            }
            return says[s];
        }

        boolean clauseSays(int system, Step step, int world) {
            boolean one = false;
            boolean allOther = true;
            for (int letter = 0; letter < 8; letter++) {
                if (colour(letter) != 2) continue;
                boolean asIs = step.p.contains(letter) && so(world, letter) || step.n.contains(letter) && !so(world, letter);
                one |= asIs;
                allOther &= !asIs;
            }
            if (step.party == 0) return system == 0 && one;
            return system != 2 || allOther;
        }

        boolean stepSays(int system, Step step, int world, boolean ofI, boolean ofJ) {
            boolean either = ofI || ofJ;
            boolean both = ofI && ofJ;
            int colour = colour(step.letter);
            return switch (system) {
                case 0 -> colour == 0 ? either : both;
                case 1 -> colour == 0 ? either : colour == 1 ? both : so(world, step.letter) ? ofJ : ofI;
                default -> colour == 1 ? both : either;
            };
        }

        int sentence(int system, int s, int world) {
            if (!is(s)) return UNKNOWN;
            if (system < 0 || system > 2 || world < 0 || world > 255) return OUTSIDE;
            return says(system, s)[world] ? 1 : 0;
        }

        int about(int system, int s, int what) {
            if (!is(s)) return UNKNOWN;
            if (system < 0 || system > 2 || what < 0 || what > 2) return OUTSIDE;
            boolean[] says = says(system, s);
            if (what == 0) {
                int many = 0;
                for (boolean so : says) many += so ? 1 : 0;
                return many;
            }
            return what == 1 ? speaksOf(says) : parts(says);
        }

        static int speaksOf(boolean[] says) {
            int letters = 0;
            for (int letter = 0; letter < 8; letter++) {
                for (int world = 0; world < 256; world++) {
                    if (says[world] != says[world ^ 1 << letter]) letters |= 1 << letter;
                }
            }
            return letters;
        }

        static int parts(boolean[] says) {
            Set<String> all = new HashSet<>();
            Set<String> now = new HashSet<>();
            StringBuilder own = new StringBuilder();
            for (boolean so : says) own.append(so ? '1' : '0');
            now.add(own.toString());
            all.addAll(now);
            for (int letter = 0; letter < 8; letter++) {
                Set<String> next = new HashSet<>();
                for (String f : now) {
                    char[] soOne = new char[256];
                    char[] notOne = new char[256];
                    for (int world = 0; world < 256; world++) {
                        soOne[world] = f.charAt(world | 1 << letter);
                        notOne[world] = f.charAt(world & ~(1 << letter));
                    }
                    next.add(new String(soOne));
                    next.add(new String(notOne));
                }
                now = next;
                all.addAll(now);
            }
            all.remove("0".repeat(256));
            all.remove("1".repeat(256));
            return all.size();
        }

        int between(int system) {
            if (system < 0 || system > 2) return OUTSIDE;
            int empty = firstEmpty();
            if (empty == NONE) return NOT;
            boolean[] says = says(system, empty);
            boolean one = true;
            boolean two = true;
            for (int world = 0; world < 256; world++) {
                if (allHold(world, true, false) && !says[world]) one = false;
                if (allHold(world, false, true) && says[world]) two = false;
            }
            boolean four = (speaksOf(says) & ~shared()) == 0;
            return (one ? 1 : 0) + (two ? 2 : 0) + (four ? 4 : 0);
        }

        int saysMore(int s, int system, int other) {
            if (!is(s)) return UNKNOWN;
            if (system < 0 || system > 2 || other < 0 || other > 2) return OUTSIDE;
            boolean[] a = says(system, s);
            boolean[] b = says(other, s);
            for (int world = 0; world < 256; world++) {
                if (a[world] && !b[world]) return 0;
            }
            return 1;
        }

        int needless() {
            int empty = firstEmpty();
            if (empty == NONE) return NOT;
            Set<Integer> needed = madeOf(empty);
            int many = 0;
            for (int s = 0; s < steps.size(); s++) {
                if (steps.get(s).i != null && !needed.contains(s)) many++;
            }
            return many;
        }

        int sum(int party, int a, int b, int c, int d, int k) {
            if (party < 0 || party > 1 || k < -99 || k > 99) return OUTSIDE;
            for (int number : new int[] {a, b, c, d}) {
                if (number < -9 || number > 9) return OUTSIDE;
            }
            if (sums.size() == 8) return FULL;
            sums.add(new Sum(party, new int[] {a, b, c, d, k}));
            weights.add(0);
            return sums.size() - 1;
        }

        int weigh(int s, int weight) {
            if (s < 0 || s >= sums.size()) return UNKNOWN;
            if (weight < 0 || weight > 20) return OUTSIDE;
            return weights.set(s, weight);
        }

        int[] added(List<Integer> by, boolean ofAAlone) {
            int[] added = new int[5];
            for (int s = 0; s < sums.size(); s++) {
                for (int q = 0; q < 5; q++) {
                    if (!ofAAlone || sums.get(s).party == 0) added[q] += sums.get(s).numbers[q] * by.get(s);
                }
            }
            return added;
        }

        boolean refutes(List<Integer> by) {
            int[] added = added(by, false);
            return added[0] == 0 && added[1] == 0 && added[2] == 0 && added[3] == 0 && added[4] < 0;
        }

        int weighed(int of, int what) {
            if (of < 0 || of > 1 || what < 0 || what > 4) return OUTSIDE;
            return added(weights, of == 1)[what];
        }

        int sums(int what) {
            if (what < 0 || what > 3) return OUTSIDE;
            if (what == 0) return refutes(weights) ? 1 : 0;
            int free = 0;
            int middle = 0;
            for (int q = 0; q < 4; q++) {
                Set<Integer> who = new HashSet<>();
                for (Sum s : sums) {
                    if (s.numbers[q] != 0) who.add(s.party);
                }
                if (who.size() != 1) free |= 1 << q;
                if (added(weights, true)[q] != 0) middle |= 1 << q;
            }
            return what == 1 ? free : what == 2 ? middle : (middle | free) == free ? 1 : 0;
        }

        int seekWeights() {
            int n = sums.size();
            if (n == 0 || n > 6) return NOT;
            for (int most = 1; most <= 6; most++) {
                Integer[] by = new Integer[n];
                Arrays.fill(by, 0);
                int place = 0;
                while (place >= 0) {
                    if (refutes(Arrays.asList(by))) {
                        weights = new ArrayList<>(Arrays.asList(by));
                        return java.util.Collections.max(weights);
                    }
                    place = n - 1;
                    while (place >= 0 && by[place] == most) by[place--] = 0;
                    if (place >= 0) by[place]++;
                }
            }
            return NONE;
        }

        int clear() {
            int were = sums.size();
            sums.clear();
            weights.clear();
            return were;
        }

        int keep(int i) {
            if (i < 0 || i > 1) return UNKNOWN;
            images.put(i, new ArrayList<>(steps));
            past.clear();
            return steps.size();
        }

        int goBack(int i) {
            if (i < 0 || i > 1) return UNKNOWN;
            if (!images.containsKey(i)) return NOT;
            steps = new ArrayList<>(images.get(i));
            past.clear();
            return steps.size();
        }
    }

    /** One run: both are called alike. */
    static final class Run {
        final int number;
        final Random chance;
        final Model model = new Model();
        final BetweenBoth x = new BetweenBoth();
        final List<String> calls = new ArrayList<>();
        final int sumSpread;
        int made = 0;
        boolean wrong = false;

        Run(int number) {
            this.number = number;
            this.chance = new Random(number);
            this.sumSpread = 1 + chance.nextInt(9);
        }

        boolean open() {
            return made < 512 && !wrong;
        }

        void due(String call, int got, int want) {
            made++;
            calls.add(call + " = " + want);
            if (got != want) {
                wrong = true;
                System.out.println("run " + number + ": " + call + " answered " + got + ", the model " + want + "; last calls: "
                        + calls.subList(Math.max(0, calls.size() - 60), calls.size()));
            }
        }

        void feed(int letter) {
            due("feed(" + letter + ")", x.feed(letter), model.feed(letter));
        }

        /** A number about as likely as not at an edge. */
        int near(int least, int most) {
            int pick = chance.nextInt(40);
            if (pick == 0) return least - 1;
            if (pick == 1) return most + 1;
            if (pick == 2) return chance.nextInt();
            if (pick == 3) return most;
            return most < least ? least : least + chance.nextInt(most - least + 1);
        }

        String clauseText(int letters) {
            int p = 0;
            int n = 0;
            for (int k = 0; k < letters; k++) {
                int how = chance.nextInt(letters > 4 ? 5 : 4);
                if (how == 0) p |= 1 << k;
                if (how == 1) n |= 1 << k;
            }
            return (chance.nextBoolean() ? "a" : "b") + p + blanks(1) + n + blanks(0) + ";" + blanks(0);
        }

        String blanks(int least) {
            return " ".repeat(least + (chance.nextInt(12) == 0 ? 1 : 0));
        }

        String text() {
            int letters = 1 + chance.nextInt(8);
            int many = chance.nextInt(11);
            StringBuilder text = new StringBuilder();
            for (int k = 0; k < many; k++) text.append(clauseText(letters));
            Model plan = new Model();
            plan.text.append(text);
            plan.parties();
            int steps = chance.nextInt(3) == 0 ? chance.nextInt(34) : chance.nextInt(6);
            for (int k = 0; k < steps && plan.steps.size() > 1; k++) {
                for (int attempt = 0; attempt < 40; attempt++) {
                    int i = chance.nextInt(plan.steps.size());
                    int j = chance.nextInt(plan.steps.size());
                    int v = chance.nextInt(8);
                    Step made = Model.made(plan.steps, i, j, v);
                    if (made != null || chance.nextInt(900) == 0) {
                        text.append("r").append(i).append(blanks(1)).append(j).append(blanks(1)).append(v).append(";");
                        if (made != null) plan.steps.add(made);
                        break;
                    }
                }
            }
            if (chance.nextInt(4) == 0) spoil(text);
            return text.length() > 240 ? text.substring(0, 240) : text.toString();
        }

        void spoil(StringBuilder text) {
            String signs = "abr;0123456789  ?c" + (char) 200;
            int at = chance.nextInt(text.length() + 1);
            char sign = signs.charAt(chance.nextInt(signs.length()));
            int how = chance.nextInt(4);
            if (how == 0 || at >= text.length()) {
                text.insert(at, sign);
            } else if (how == 1) {
                text.deleteCharAt(at);
            } else if (how == 2) {
                text.setCharAt(at, sign);
            } else {
                text.setLength(at);
            }
        }

        void tell() {
            String text = text();
            if (made + text.length() + 3 > 512) return;
            for (int k = 0; k < text.length(); k++) feed(text.charAt(k));
            due("parties()", x.parties(), model.parties());
            due("fault()", x.fault(), model.fault);
        }

        void one() {
            int s = near(0, model.steps.size() - 1);
            int t = near(0, model.steps.size() - 1);
            int system = near(0, 2);
            int other = near(0, 2);
            int world = near(0, 255);
            int letter = near(0, 7);
            int what;
            switch (chance.nextInt(22)) {
                case 0 -> { what = near(0, 10); due("told(" + what + ")", x.told(what), model.told(what)); }
                case 1 -> due("colour(" + letter + ")", x.colour(letter), model.colour(letter));
                case 2 -> { what = near(0, 7); due("step(" + s + ", " + what + ")", x.step(s, what), model.step(s, what)); }
                case 3 -> due("holds(" + s + ", " + world + ")", x.holds(s, world), model.holds(s, world));
                case 4, 5 -> resolve(s, t, letter);
                case 6 -> { if (chance.nextInt(3) == 0) due("seek()", x.seek(), model.seek()); }
                case 7 -> { if (chance.nextInt(2) == 0) due("undo()", x.undo(), model.undo()); }
                case 8 -> due("sentence(" + system + ", " + s + ", " + world + ")", x.sentence(system, s, world), model.sentence(system, s, world));
                case 9, 10 -> { what = near(0, 2); due("about(" + system + ", " + s + ", " + what + ")", x.about(system, s, what), model.about(system, s, what)); }
                case 11 -> due("between(" + system + ")", x.between(system), model.between(system));
                case 12 -> due("saysMore(" + s + ", " + system + ", " + other + ")", x.saysMore(s, system, other), model.saysMore(s, system, other));
                case 13 -> due("needless()", x.needless(), model.needless());
                case 14 -> sum();
                case 15 -> { what = near(0, model.sums.size() - 1); int w = near(0, 20); due("weigh(" + what + ", " + w + ")", x.weigh(what, w), model.weigh(what, w)); }
                case 16 -> { what = near(0, 4); int of = near(0, 1); due("weighed(" + of + ", " + what + ")", x.weighed(of, what), model.weighed(of, what)); }
                case 17 -> { what = near(0, 3); due("sums(" + what + ")", x.sums(what), model.sums(what)); }
                case 18 -> { if (chance.nextInt(4) == 0) seekWeights(); }
                case 19 -> { if (chance.nextInt(8) == 0) due("clear()", x.clear(), model.clear()); }
                case 20 -> { if (chance.nextInt(3) == 0) { int i = near(0, 1); due("keep(" + i + ")", x.keep(i), model.keep(i)); } }
                default -> { if (chance.nextInt(3) == 0) { int i = near(0, 1); due("goBack(" + i + ")", x.goBack(i), model.goBack(i)); } }
            }
        }

        void resolve(int s, int t, int letter) {
            for (int attempt = 0; attempt < 30 && model.steps.size() > 1; attempt++) {
                int i = chance.nextInt(model.steps.size());
                int j = chance.nextInt(model.steps.size());
                int v = chance.nextInt(8);
                if (Model.made(model.steps, i, j, v) != null) {
                    due("resolve(" + i + ", " + j + ", " + v + ")", x.resolve(i, j, v), model.resolve(i, j, v));
                    return;
                }
            }
            due("resolve(" + s + ", " + t + ", " + letter + ")", x.resolve(s, t, letter), model.resolve(s, t, letter));
        }

        void sum() {
            int[] n = new int[4];
            for (int k = 0; k < 4; k++) n[k] = chance.nextInt(60) == 0 ? near(-9, 9) : chance.nextInt(2) == 0 ? 0 : near(-sumSpread, sumSpread);
            int party = near(0, 1);
            int k = chance.nextInt(3) == 0 ? near(-99, 99) : chance.nextInt(9) - 4;
            due("sum(" + party + ", " + Arrays.toString(n) + ", " + k + ")", x.sum(party, n[0], n[1], n[2], n[3], k), model.sum(party, n[0], n[1], n[2], n[3], k));
        }

        void seekWeights() {
            due("seekWeights()", x.seekWeights(), model.seekWeights());
            for (int q = 0; q < 10 && open(); q++) {
                due("weighed(" + q / 5 + ", " + q % 5 + ")", x.weighed(q / 5, q % 5), model.weighed(q / 5, q % 5));
            }
            for (int s = 0; s < model.sums.size() && open(); s++) {
                int was = model.weights.get(s);
                due("weigh(" + s + ", " + was + ")", x.weigh(s, was), model.weigh(s, was));
            }
        }

        void run() {
            if (chance.nextInt(10) != 0) tell();
            while (open()) {
                one();
                if (chance.nextInt(100) == 0) tell();
                if (open() && chance.nextInt(150) == 0) feed(near(0, 255));
                if (open() && model.text.length() > 0 && chance.nextInt(5) == 0) due("parties()", x.parties(), model.parties());
            }
        }
    }

    public static void main(String[] args) {
        int runs = args.length > 1 ? Integer.parseInt(args[1]) : 300;
        int wrong = 0;
        for (int run = 0; run < runs && wrong < 5; run++) {
            Run r = new Run(run);
            r.run();
            if (r.wrong) wrong++;
        }
        System.out.println(wrong == 0 ? runs + " runs are as the model" : "runs are not as the model");
        if (wrong != 0) System.exit(1);
    }
}
