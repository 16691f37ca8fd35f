import java.util.ArrayList;
import java.util.Arrays;
import java.util.Collections;
import java.util.HashMap;
import java.util.List;
import java.util.Map;
import java.util.Random;
import java.util.TreeMap;

/**
 * Drawn runs of calls, each answered by the class and by a slow model of the document. The model
 * compares whole texts of choices where the class relies on the order of its search.
 */
public final class ModelTests {
    private static final int NONE = -1, UNKNOWN = -101, OUTSIDE = -102, STATE = -103, ROOM = -104;
    private static final int RETURNED = 40, THROWN_OUT = 41;
    private static final int MOST_CALLS = 512;

    private record Thing(int sort, boolean lets, int inner) {
        boolean file() {
            return sort == 0;
        }
    }

    private record Step(int code, int t, int s, boolean mayThrow, int handler) {
    }

    /** A way to a node: its choices as a text, its steps in their order. */
    private record Way(String choices, List<Integer> steps) {
    }

    private static final class Model {
        final List<Thing> things = new ArrayList<>();
        final List<Step> steps = new ArrayList<>();
        Map<List<Integer>, Way> all = null;
        Map<String, Way> findings = new TreeMap<>();
        List<Integer> ran = null;
        List<Integer> cameTo = null;
        int chose = 0;

        boolean noThing(int t) {
            return t < 0 || t >= things.size();
        }

        int thing(int sort, boolean lets, int inner) {
            if (inner != NONE && noThing(inner)) return UNKNOWN;
            if (sort < 0 || sort > 1) return OUTSIDE;
            if (inner != NONE && sort == 1) return OUTSIDE;
            if (inner != NONE && !things.get(inner).file()) return OUTSIDE;
            if (things.size() == 5) return ROOM;
            things.add(new Thing(sort, lets, inner));
            all = null;
            return things.size() - 1;
        }

        int refused(int code, int t, int s, int handler) {
            boolean namesT = List.of(0, 1, 2, 3, 8).contains(code);
            boolean namesS = List.of(4, 5, 8).contains(code);
            if (namesT && noThing(t)) return UNKNOWN;
            if (code < 0 || code > 8) return OUTSIDE;
            if (namesS && (s < 0 || s > 39)) return OUTSIDE;
            if (handler < -1 || handler > 39) return OUTSIDE;
            if (code == 3 && things.get(t).sort == 1) return OUTSIDE;
            return 0;
        }

        int step(int code, int t, int s, boolean mayThrow, int handler) {
            int refused = refused(code, t, s, handler);
            if (refused != 0) return refused;
            if (steps.size() == 40) return ROOM;
            steps.add(new Step(code, t, s, mayThrow, handler));
            all = null;
            return steps.size() - 1;
        }

        int change(int step, int code, int t, int s, boolean mayThrow, int handler) {
            int refused = refused(code, t, s, handler);
            if (refused == UNKNOWN) return UNKNOWN;
            if (refused != 0 || step < 0 || step >= steps.size()) return OUTSIDE;
            all = null;
            return steps.set(step, new Step(code, t, s, mayThrow, handler)).code;
        }

        boolean held(int t, int state) {
            return things.get(t).file() ? state == 1 : state >= 1;
        }

        List<Integer> at(int place, List<Integer> states) {
            List<Integer> node = new ArrayList<>(states);
            node.set(0, place < RETURNED && place >= steps.size() ? RETURNED : place);
            return node;
        }

        List<Integer> first() {
            List<Integer> states = new ArrayList<>();
            for (int i = 0; i <= things.size(); i++) states.add(0);
            return at(0, states);
        }

        List<Integer> thrown(Step step, List<Integer> states) {
            return at(step.handler == NONE ? THROWN_OUT : step.handler, states);
        }

        /** The kind of the fault, or NONE. */
        int fault(List<Integer> node) {
            Step step = steps.get(node.get(0));
            if (step.code > 3) return NONE;
            Thing thing = things.get(step.t);
            int now = node.get(1 + step.t);
            if (step.code == 0) {
                return now == (thing.file() ? 1 : 3) ? 2 : NONE;
            }
            if (held(step.t, now)) return NONE;
            if (step.code == 1) return thing.file() && now == 3 ? NONE : 3;
            if (step.code == 2) return thing.file() && thing.lets && now == 2 ? NONE : 4;
            return 3;
        }

        List<Integer> done(List<Integer> node) {
            Step step = steps.get(node.get(0));
            List<Integer> after = new ArrayList<>(node);
            boolean file = things.get(step.t).file();
            int now = node.get(1 + step.t);
            if (step.code == 0) after.set(1 + step.t, file ? 1 : now + 1);
            if (step.code == 3) after.set(1 + step.t, 3);
            if (step.code == 2 && !file) after.set(1 + step.t, now - 1);
            if (step.code == 2 && file) {
                int t = step.t;
                while (t != NONE && after.get(1 + t) == 1) {
                    after.set(1 + t, 2);
                    t = things.get(t).inner;
                }
            }
            return after;
        }

        /** The nodes behind a node, one for each choice. */
        List<List<Integer>> behind(List<Integer> node) {
            int place = node.get(0);
            if (place >= RETURNED) return List.of();
            Step step = steps.get(place);
            switch (step.code) {
                case 4: return List.of(at(place + 1, node), at(step.s, node));
                case 5: return List.of(at(step.s, node));
                case 6: return List.of(at(RETURNED, node));
                case 7: return List.of(thrown(step, node));
                case 8: return List.of(at(held(step.t, node.get(1 + step.t)) ? step.s : place + 1, node));
                default: break;
            }
            if (fault(node) != NONE) return List.of(thrown(step, node));
            List<Integer> done = done(node);
            if (!step.mayThrow) return List.of(at(place + 1, done));
            return List.of(at(place + 1, done), thrown(step, step.code == 2 ? done : node));
        }

        int check() {
            all = new HashMap<>();
            findings = new TreeMap<>();
            Map<List<Integer>, Way> level = new HashMap<>();
            level.put(first(), new Way("", List.of()));
            while (!level.isEmpty()) {
                all.putAll(level);
                Map<List<Integer>, Way> next = new HashMap<>();
                for (Map.Entry<List<Integer>, Way> e : level.entrySet()) {
                    List<Integer> node = e.getKey();
                    note(node, e.getValue());
                    List<List<Integer>> behind = behind(node);
                    for (int choice = 0; choice < behind.size(); choice++) {
                        if (!all.containsKey(behind.get(choice))) {
                            next.merge(behind.get(choice), longer(e.getValue(), choice, node.get(0)), Model::better);
                        }
                    }
                }
                level = next;
            }
            return findings.size();
        }

        static Way longer(Way way, int choice, int step) {
            List<Integer> more = new ArrayList<>(way.steps);
            more.add(step);
            return new Way(way.choices + choice, more);
        }

        static Way better(Way a, Way b) {
            if (a.steps.size() != b.steps.size()) return a.steps.size() < b.steps.size() ? a : b;
            return a.choices.compareTo(b.choices) <= 0 ? a : b;
        }

        void note(List<Integer> node, Way way) {
            int place = node.get(0);
            if (place < RETURNED) {
                int kind = fault(node);
                if (kind != NONE) findings.merge(kind + " " + steps.get(place).t, longer(way, 0, place), Model::better);
                return;
            }
            for (int t = 0; t < things.size(); t++) {
                if (held(t, node.get(1 + t))) findings.merge((place - RETURNED) + " " + t, way, Model::better);
            }
        }

        int refusedFinding(int kind, int t) {
            if (noThing(t)) return UNKNOWN;
            if (kind < 0 || kind > 4) return OUTSIDE;
            return all == null ? STATE : 0;
        }

        int found(int kind, int t) {
            if (refusedFinding(kind, t) != 0) return refusedFinding(kind, t);
            Way way = findings.get(kind + " " + t);
            return way == null ? NONE : way.steps.size();
        }

        int way(int kind, int t, int i) {
            if (refusedFinding(kind, t) != 0) return refusedFinding(kind, t);
            Way way = findings.get(kind + " " + t);
            return way == null || i < 0 || i >= way.steps.size() ? NONE : way.steps.get(i);
        }

        int closed(int t) {
            if (noThing(t)) return UNKNOWN;
            if (all == null) return STATE;
            for (List<Integer> node : all.keySet()) {
                if (node.get(0) >= RETURNED && held(t, node.get(1 + t))) return 0;
            }
            return 1;
        }

        int states(int step, int t) {
            if (noThing(t)) return UNKNOWN;
            if (step < 0 || step > 41) return OUTSIDE;
            if (all == null) return STATE;
            int bits = 0;
            for (List<Integer> node : all.keySet()) {
                if (node.get(0) == step) bits |= 1 << node.get(1 + t);
            }
            return bits;
        }

        int nodes(int step) {
            if (step < 0 || step > 42) return OUTSIDE;
            if (all == null) return STATE;
            return (int) all.keySet().stream().filter(node -> step == 42 || node.get(0) == step).count();
        }

        int atOnce(int what) {
            if (what < 0 || what > 2) return OUTSIDE;
            if (all == null) return STATE;
            int most = 0;
            for (List<Integer> node : all.keySet()) {
                int sum = 0;
                for (int t = 0; t < things.size(); t++) {
                    int now = node.get(1 + t);
                    boolean file = things.get(t).file();
                    if (what == 0 && file && now == 1) sum++;
                    if (what == 1 && !file) sum += now;
                    if (what == 2 && held(t, now)) sum++;
                }
                most = Math.max(most, sum);
            }
            return most;
        }

        int run(int seed, int limit) {
            if (limit < 1 || limit > 100) return OUTSIDE;
            long x = seed;
            ran = new ArrayList<>();
            chose = 0;
            cameTo = first();
            while (ran.size() < limit && cameTo.get(0) < RETURNED) {
                ran.add(cameTo.get(0));
                List<List<Integer>> behind = behind(cameTo);
                int choice = 0;
                if (behind.size() == 2) {
                    x = (1103515245L * x + 12345L) & 0xFFFFFFFFL;
                    choice = (int) ((x >> 16) & 1);
                    chose++;
                }
                cameTo = behind.get(choice);
            }
            return ran.size();
        }

        int ran(int i) {
            return ran == null || i < 0 || i >= ran.size() ? NONE : ran.get(i);
        }

        int came(int what) {
            if (what < 0 || what > 6) return OUTSIDE;
            if (ran == null) return STATE;
            if (what == 0) return cameTo.get(0);
            if (what == 1) return chose;
            return what - 1 < cameTo.size() ? cameTo.get(what - 1) : STATE;
        }

        int told(int step, int what) {
            if (step < 0 || step >= steps.size() || what < 0 || what > 4) return OUTSIDE;
            Step it = steps.get(step);
            return new int[] {it.code, it.t, it.s, it.handler, it.mayThrow ? 1 : 0}[what];
        }

        int count(int what) {
            if (what < 0 || what > 2) return OUTSIDE;
            return what == 0 ? things.size() : what == 1 ? steps.size() : all == null ? 0 : 1;
        }

        int clear() {
            int before = steps.size();
            things.clear();
            steps.clear();
            all = null;
            ran = null;
            return before;
        }
    }

    /** One run of calls: its shape (how many things, steps, throws) is drawn first. */
    private static final class Drawn {
        final Random random;
        final ResourceEnds real = new ResourceEnds();
        final Model model = new Model();
        final List<String> calls = new ArrayList<>();
        final int fewThings;
        final int span;
        final boolean wild;
        final boolean tough;
        boolean wrong = false;

        Drawn(long seed) {
            random = new Random(seed);
            fewThings = 1 + random.nextInt(5);
            span = 1 + random.nextInt(random.nextBoolean() ? 40 : 12);
            wild = random.nextInt(4) == 0;
            tough = random.nextBoolean();
        }

        /** A number from a bound's inside, now and then one from its rim or far off. */
        int about(int end) {
            int far = random.nextInt(wild ? 12 : 60);
            if (far == 0) return new int[] {-2, -1, end, end + 1, Integer.MIN_VALUE, Integer.MAX_VALUE}[random.nextInt(6)];
            return random.nextInt(Math.max(1, end));
        }

        int code() {
            int[] codes = {0, 0, 0, 0, 1, 1, 2, 2, 2, 3, 4, 4, 4, 4, 8, 5, 6, 7, 8};
            return random.nextInt(40) == 0 ? about(9) : codes[random.nextInt(codes.length - (tough ? 4 : 0))];
        }

        int target() {
            return random.nextInt(20) == 0 ? about(40) : random.nextInt(span);
        }

        /** Often the next step, so that a method goes on behind a fault. */
        int handler(int step) {
            int choice = random.nextInt(tough ? 8 : 4);
            return choice == 0 ? NONE : choice == 1 ? target() : 1 + Math.max(0, Math.min(step, 38));
        }

        void due(int real, int model, String name, Object... args) {
            String call = name + Arrays.toString(args);
            calls.add(call + " = " + real);
            if (real != model) {
                wrong = true;
                calls.add("due is " + model);
            }
        }

        void thing() {
            int sort = random.nextInt(3) == 0 ? 1 : about(2);
            boolean lets = random.nextBoolean();
            int inner = random.nextBoolean() ? NONE : about(model.things.size());
            due(real.thing(sort, lets, inner), model.thing(sort, lets, inner), "thing", sort, lets, inner);
        }

        void stepOrChange(boolean change) {
            int step = about(model.steps.size());
            int code = code();
            int t = about(model.things.size());
            int s = target();
            boolean may = random.nextInt(3) == 0;
            int h = handler(change ? step : model.steps.size());
            if (change) {
                due(real.change(step, code, t, s, may, h), model.change(step, code, t, s, may, h), "change", step, code, t, s, may, h);
            } else {
                due(real.step(code, t, s, may, h), model.step(code, t, s, may, h), "step", code, t, s, may, h);
            }
        }

        void ask() {
            int thing = about(model.things.size());
            int kind = about(5);
            int step = about(42);
            int what = about(5);
            switch (random.nextInt(12)) {
                case 0: due(real.found(kind, thing), model.found(kind, thing), "found", kind, thing); break;
                case 1: due(real.closed(thing), model.closed(thing), "closed", thing); break;
                case 2: due(real.states(step, thing), model.states(step, thing), "states", step, thing); break;
                case 3: due(real.nodes(step), model.nodes(step), "nodes", step); break;
                case 4: due(real.atOnce(what), model.atOnce(what), "atOnce", what); break;
                case 5: due(real.told(step, what), model.told(step, what), "told", step, what); break;
                case 6: due(real.count(what), model.count(what), "count", what); break;
                case 7: due(real.nodes(42), model.nodes(42), "nodes", 42); break;
                case 8: {
                    int i = about(12);
                    due(real.way(kind, thing, i), model.way(kind, thing, i), "way", kind, thing, i);
                    break;
                }
                case 9: {
                    int i = about(20);
                    due(real.ran(i), model.ran(i), "ran", i);
                    break;
                }
                case 10: {
                    int w = about(7);
                    due(real.came(w), model.came(w), "came", w);
                    break;
                }
                default: {
                    int seed = random.nextInt();
                    int limit = random.nextInt(8) == 0 ? 100 : about(101);
                    due(real.run(seed, limit), model.run(seed, limit), "run", seed, limit);
                    break;
                }
            }
        }

        /** As much of what is found as the object's calls are left for, in a drawn order. */
        void askOfCheck() {
            due(real.check(), model.check(), "check");
            List<Runnable> questions = questionsOfCheck();
            Collections.shuffle(questions, random);
            for (Runnable question : questions) {
                if (calls.size() < MOST_CALLS) question.run();
            }
        }

        List<Runnable> questionsOfCheck() {
            List<Runnable> all = new ArrayList<>();
            for (int thing = 0; thing < model.things.size(); thing++) {
                int t = thing;
                all.add(() -> due(real.closed(t), model.closed(t), "closed", t));
                for (int kind = 0; kind < 5; kind++) {
                    int k = kind;
                    int length = model.found(k, t);
                    all.add(() -> due(real.found(k, t), length, "found", k, t));
                    for (int i = 0; i <= length; i++) {
                        int at = i;
                        all.add(() -> due(real.way(k, t, at), model.way(k, t, at), "way", k, t, at));
                    }
                }
                for (int step = 0; step < 42; step++) {
                    int s = step;
                    all.add(() -> due(real.states(s, t), model.states(s, t), "states", s, t));
                }
            }
            for (int step = 0; step < 43; step++) {
                int s = step;
                all.add(() -> due(real.nodes(s), model.nodes(s), "nodes", s));
            }
            for (int what = 0; what < 3; what++) {
                int w = what;
                all.add(() -> due(real.atOnce(w), model.atOnce(w), "atOnce", w));
            }
            return all;
        }

        boolean goes() {
            for (int i = 0; i < 40 && model.things.size() < fewThings && !wrong; i++) thing();
            for (int i = 0; i < 80 && model.steps.size() < span && !wrong; i++) stepOrChange(false);
            for (int i = 0; i < 60 && !wrong; i++) {
                int choice = random.nextInt(wild ? 20 : 60);
                if (choice == 0) thing();
                else if (choice == 1) stepOrChange(false);
                else if (choice <= 3) stepOrChange(true);
                else if (choice <= 6) due(real.check(), model.check(), "check");
                else if (choice == 7 && random.nextInt(4) == 0) due(real.clear(), model.clear(), "clear");
                else ask();
            }
            if (!wrong) askOfCheck();
            return !wrong;
        }
    }

    public static void main(String[] args) {
        int runs = args.length > 0 ? Integer.parseInt(args[0]) : 5000;
        int wrong = 0;
        long answers = 0;
        long findings = 0;
        int mostNodes = 0;
        for (int seed = 0; seed < runs && wrong < 5; seed++) {
            Drawn drawn = new Drawn(seed);
            if (!drawn.goes()) {
                wrong++;
                System.out.println("run " + seed + ":\n  " + String.join("\n  ", drawn.calls));
            }
            answers += drawn.calls.size();
            findings += drawn.model.findings.size();
            mostNodes = Math.max(mostNodes, drawn.model.all == null ? 0 : drawn.model.all.size());
        }
        System.out.println(answers + " answers of drawn runs, " + findings + " findings, at most " + mostNodes + " nodes; "
            + wrong + " runs not as due");
        if (wrong != 0) {
            System.exit(1);
        }
    }
}
