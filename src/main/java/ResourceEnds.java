import java.util.Arrays;

/** Finds, for a method of steps, what things may be left open or wrongly handled on its ways out. */
public final class ResourceEnds {
    public static final int NONE = -1, UNKNOWN = -101, OUTSIDE = -102, STATE = -103, ROOM = -104;

    private static final int MOST_THINGS = 5, MOST_STEPS = 40, MOST_RUN_STEPS = 100;

    private static final int FILE = 0, MONITOR = 1;
    private static final int IS_OPEN = 1, IS_CLOSED = 2, IS_KEPT = 3, MOST_ENTERED = 3;

    private static final int OPEN = 0, USE = 1, CLOSE = 2, KEEP = 3, BRANCH = 4, GO = 5, END = 6, FAIL = 7, ASK = 8;

    private static final int LEFT = 0, LEFT_BY_THROW = 1, OPENED_AGAIN = 2, USED = 3, CLOSED_AGAIN = 4, KINDS = 5;

    private static final int RETURNED = 40, THROWN_OUT = 41, PLACES = 42;

    /** What all things are is one number, two bits a thing; a node is a place and that number. */
    private static final int STATE_BITS = 2, STATE_MASK = 3;
    private static final int ALL_BITS = STATE_BITS * MOST_THINGS, ALL_MASK = (1 << ALL_BITS) - 1;
    private static final int MOST_NODES = PLACES << ALL_BITS;

    private static final int ACCEPTED = 0;

    private final Things things;
    private final Steps steps;
    private final Moves moves;
    private final Search search;
    private final Trial trial;
    private boolean allFound;

    public ResourceEnds() {
        things = new Things();
        steps = new Steps();
        moves = new Moves(things, steps);
        search = new Search(things, steps, moves);
        trial = new Trial();
        allFound = false;
    }

    public int thing(int sort, boolean lets, int inner) {
        if (inner != NONE && !things.has(inner)) {
            return UNKNOWN;
        }
        if (sort != FILE && sort != MONITOR) {
            return OUTSIDE;
        }
        if (inner != NONE && (sort == MONITOR || !things.isFile(inner))) {
            return OUTSIDE;
        }
        if (things.size >= MOST_THINGS) {
            return ROOM;
        }
        allFound = false;
        return things.add(sort, lets, inner);
    }

    public int step(int code, int t, int s, boolean mayThrow, int handler) {
        int refusal = refusalOf(code, t, s, handler);
        if (refusal != ACCEPTED) {
            return refusal;
        }
        if (steps.size >= MOST_STEPS) {
            return ROOM;
        }
        int number = steps.size;
        steps.size++;
        steps.write(number, code, t, s, mayThrow, handler);
        allFound = false;
        return number;
    }

    public int change(int step, int code, int t, int s, boolean mayThrow, int handler) {
        int refusal = refusalOf(code, t, s, handler);
        if (refusal != ACCEPTED) {
            return refusal;
        }
        if (!steps.has(step)) {
            return OUTSIDE;
        }
        int codeBefore = steps.codes[step];
        steps.write(step, code, t, s, mayThrow, handler);
        allFound = false;
        return codeBefore;
    }

    public int check() {
        if (!allFound) {
            search.explore();
            allFound = true;
        }
        return search.findings;
    }

    public int found(int kind, int thing) {
        int refusal = refusalOfFinding(kind, thing);
        return refusal != ACCEPTED ? refusal : search.lengthOf(kind, thing);
    }

    public int way(int kind, int thing, int i) {
        int refusal = refusalOfFinding(kind, thing);
        return refusal != ACCEPTED ? refusal : search.stepOnWay(kind, thing, i);
    }

    public int closed(int thing) {
        if (!things.has(thing)) {
            return UNKNOWN;
        }
        if (!allFound) {
            return STATE;
        }
        boolean left = search.lengthOf(LEFT, thing) != NONE || search.lengthOf(LEFT_BY_THROW, thing) != NONE;
        return left ? 0 : 1;
    }

    public int states(int step, int thing) {
        if (!things.has(thing)) {
            return UNKNOWN;
        }
        if (!isWithin(step, PLACES)) {
            return OUTSIDE;
        }
        return allFound ? search.statesAt[step * MOST_THINGS + thing] : STATE;
    }

    public int nodes(int step) {
        if (!isWithin(step, PLACES + 1)) {
            return OUTSIDE;
        }
        if (!allFound) {
            return STATE;
        }
        return step == PLACES ? search.reached : search.nodesAt[step];
    }

    public int atOnce(int what) {
        if (!isWithin(what, 3)) {
            return OUTSIDE;
        }
        if (!allFound) {
            return STATE;
        }
        switch (what) {
            case 0:
                return search.mostOpen;
            case 1:
                return search.mostEntered;
            default:
                return search.mostHeld;
        }
    }

    public int run(int seed, int steps) {
        if (steps < 1 || steps > MOST_RUN_STEPS) {
            return OUTSIDE;
        }
        trial.drive(moves, seed, steps);
        trial.thingsThen = things.size;
        return trial.done;
    }

    public int ran(int i) {
        return isWithin(i, trial.done) ? trial.places[i] : NONE;
    }

    public int came(int what) {
        if (!isWithin(what, 2 + MOST_THINGS)) {
            return OUTSIDE;
        }
        if (!trial.wasDriven) {
            return STATE;
        }
        if (what == 0) {
            return placeOf(trial.node);
        }
        if (what == 1) {
            return trial.chosen;
        }
        int thing = what - 2;
        return thing < trial.thingsThen ? stateIn(allOf(trial.node), thing) : STATE;
    }

    public int told(int step, int what) {
        if (!steps.has(step)) {
            return OUTSIDE;
        }
        switch (what) {
            case 0:
                return steps.codes[step];
            case 1:
                return steps.ts[step];
            case 2:
                return steps.ss[step];
            case 3:
                return steps.handlers[step];
            case 4:
                return steps.mayThrow[step] ? 1 : 0;
            default:
                return OUTSIDE;
        }
    }

    public int count(int what) {
        switch (what) {
            case 0:
                return things.size;
            case 1:
                return steps.size;
            case 2:
                return allFound ? 1 : 0;
            default:
                return OUTSIDE;
        }
    }

    public int clear() {
        int stepsBefore = steps.size;
        things.size = 0;
        steps.size = 0;
        trial.forget();
        allFound = false;
        return stepsBefore;
    }

    private int refusalOf(int code, int t, int s, int handler) {
        if (namesThing(code) && !things.has(t)) {
            return UNKNOWN;
        }
        if (code < OPEN || code > ASK) {
            return OUTSIDE;
        }
        if (namesStep(code) && !isWithin(s, MOST_STEPS)) {
            return OUTSIDE;
        }
        if (handler != NONE && !isWithin(handler, MOST_STEPS)) {
            return OUTSIDE;
        }
        if (code == KEEP && !things.isFile(t)) {
            return OUTSIDE;
        }
        return ACCEPTED;
    }

    private int refusalOfFinding(int kind, int thing) {
        if (!things.has(thing)) {
            return UNKNOWN;
        }
        if (!isWithin(kind, KINDS)) {
            return OUTSIDE;
        }
        return allFound ? ACCEPTED : STATE;
    }

    private static boolean actsOnThing(int code) {
        return code >= OPEN && code <= KEEP;
    }

    private static boolean namesThing(int code) {
        return actsOnThing(code) || code == ASK;
    }

    private static boolean namesStep(int code) {
        return code == BRANCH || code == GO || code == ASK;
    }

    private static boolean isWithin(int number, int end) {
        return number >= 0 && number < end;
    }

    private static int nodeOf(int place, int all) {
        return (place << ALL_BITS) | all;
    }

    private static int placeOf(int node) {
        return node >> ALL_BITS;
    }

    private static int allOf(int node) {
        return node & ALL_MASK;
    }

    private static int stateIn(int all, int thing) {
        return (all >> (STATE_BITS * thing)) & STATE_MASK;
    }

    private static int withState(int all, int thing, int state) {
        int shift = STATE_BITS * thing;
        return (all & ~(STATE_MASK << shift)) | (state << shift);
    }

    /** The things that there are, and what becomes of them. */
    private static final class Things {
        private final int[] sorts = new int[MOST_THINGS];
        private final boolean[] letsAgain = new boolean[MOST_THINGS];
        private final int[] inners = new int[MOST_THINGS];
        private int size = 0;

        private boolean has(int thing) {
            return isWithin(thing, size);
        }

        private boolean isFile(int thing) {
            return sorts[thing] == FILE;
        }

        private int add(int sort, boolean lets, int inner) {
            int number = size;
            sorts[number] = sort;
            letsAgain[number] = lets;
            inners[number] = inner;
            size++;
            return number;
        }

        private boolean isHeld(int all, int thing) {
            int state = stateIn(all, thing);
            return isFile(thing) ? state == IS_OPEN : state > 0;
        }

        private boolean isFileThatIs(int all, int thing, int state) {
            return isFile(thing) && stateIn(all, thing) == state;
        }

        private boolean canOpen(int all, int thing) {
            int state = stateIn(all, thing);
            return isFile(thing) ? state != IS_OPEN : state < MOST_ENTERED;
        }

        private boolean canUse(int all, int thing) {
            return isHeld(all, thing) || isFileThatIs(all, thing, IS_KEPT);
        }

        private boolean canClose(int all, int thing) {
            return isHeld(all, thing) || (letsAgain[thing] && isFileThatIs(all, thing, IS_CLOSED));
        }

        private boolean canKeep(int all, int thing) {
            return isFileThatIs(all, thing, IS_OPEN);
        }

        private int afterOpen(int all, int thing) {
            return withState(all, thing, isFile(thing) ? IS_OPEN : stateIn(all, thing) + 1);
        }

        private int afterClose(int all, int thing) {
            if (!isFile(thing)) {
                return withState(all, thing, stateIn(all, thing) - 1);
            }
            int after = all;
            int next = thing;
            for (int depth = 0; depth < MOST_THINGS && next != NONE && stateIn(after, next) == IS_OPEN; depth++) {
                after = withState(after, next, IS_CLOSED);
                next = inners[next];
            }
            return after;
        }
    }

    /** The steps as they were told, also what their codes do not name. */
    private static final class Steps {
        private final int[] codes = new int[MOST_STEPS];
        private final int[] ts = new int[MOST_STEPS];
        private final int[] ss = new int[MOST_STEPS];
        private final boolean[] mayThrow = new boolean[MOST_STEPS];
        private final int[] handlers = new int[MOST_STEPS];
        private int size = 0;

        private boolean has(int step) {
            return isWithin(step, size);
        }

        private void write(int step, int code, int t, int s, boolean throwing, int handler) {
            codes[step] = code;
            ts[step] = t;
            ss[step] = s;
            mayThrow[step] = throwing;
            handlers[step] = handler;
        }
    }

    /** From a node to those behind it. */
    private static final class Moves {
        private final Things things;
        private final Steps steps;

        private Moves(Things things, Steps steps) {
            this.things = things;
            this.steps = steps;
        }

        private int firstNode() {
            return arriveAt(0, 0);
        }

        private boolean isEnd(int node) {
            return placeOf(node) >= RETURNED;
        }

        /** The kind of the finding that the fault of this node's step is, NONE without a fault. */
        private int faultAt(int node) {
            int step = placeOf(node);
            int all = allOf(node);
            int t = steps.ts[step];
            switch (steps.codes[step]) {
                case OPEN:
                    return things.canOpen(all, t) ? NONE : OPENED_AGAIN;
                case USE:
                    return things.canUse(all, t) ? NONE : USED;
                case CLOSE:
                    return things.canClose(all, t) ? NONE : CLOSED_AGAIN;
                case KEEP:
                    return things.canKeep(all, t) ? NONE : USED;
                default:
                    return NONE;
            }
        }

        private boolean hasTwoChoices(int node, int fault) {
            int step = placeOf(node);
            int code = steps.codes[step];
            if (code == BRANCH) {
                return true;
            }
            return actsOnThing(code) && steps.mayThrow[step] && fault == NONE;
        }

        private int follow(int node, int fault, int choice) {
            int step = placeOf(node);
            int all = allOf(node);
            int s = steps.ss[step];
            switch (steps.codes[step]) {
                case BRANCH:
                    return arriveAt(choice == 0 ? step + 1 : s, all);
                case GO:
                    return arriveAt(s, all);
                case END:
                    return nodeOf(RETURNED, all);
                case FAIL:
                    return throwFrom(step, all);
                case ASK:
                    return arriveAt(things.isHeld(all, steps.ts[step]) ? s : step + 1, all);
                default:
                    break;
            }
            if (fault != NONE) {
                return throwFrom(step, all);
            }
            int after = afterDoing(step, all);
            if (choice == 0) {
                return arriveAt(step + 1, after);
            }
            return throwFrom(step, steps.codes[step] == CLOSE ? after : all);
        }

        private int afterDoing(int step, int all) {
            int t = steps.ts[step];
            switch (steps.codes[step]) {
                case OPEN:
                    return things.afterOpen(all, t);
                case CLOSE:
                    // Closing again what lets itself be closed again leaves its inner as it is.
                    return things.isHeld(all, t) ? things.afterClose(all, t) : all;
                case KEEP:
                    return withState(all, t, IS_KEPT);
                default:
                    return all;
            }
        }

        private int throwFrom(int step, int all) {
            int handler = steps.handlers[step];
            return handler == NONE ? nodeOf(THROWN_OUT, all) : arriveAt(handler, all);
        }

        private int arriveAt(int step, int all) {
            return nodeOf(step < steps.size ? step : RETURNED, all);
        }
    }

    /**
     * All nodes, the nearest first. Of those equally near, one that lesser choices lead to comes
     * first, since each node's choices are followed in their order: so the first node that shows a
     * finding is the end of its way.
     */
    private static final class Search {
        private final Things things;
        private final Steps steps;
        private final Moves moves;
        private final int[] order = new int[MOST_NODES];
        /** Of each node 1 + the node before it on its shortest way, 0: not reached. */
        private final int[] before = new int[MOST_NODES];
        private final int[] nodesAt = new int[PLACES];
        private final int[] statesAt = new int[PLACES * MOST_THINGS];
        private final int[] lengths = new int[KINDS * MOST_THINGS];
        private final int[] lastNodes = new int[KINDS * MOST_THINGS];
        private int reached = 0;
        private int findings = 0;
        private int mostOpen = 0;
        private int mostEntered = 0;
        private int mostHeld = 0;

        private Search(Things things, Steps steps, Moves moves) {
            this.things = things;
            this.steps = steps;
            this.moves = moves;
        }

        private void explore() {
            forget();
            int first = moves.firstNode();
            reach(first, first);
            int distance = 0;
            int levelEnd = reached;
            for (int at = 0; at < reached && at < MOST_NODES; at++) {
                if (at == levelEnd) {
                    distance++;
                    levelEnd = reached;
                }
                int node = order[at];
                survey(node);
                if (moves.isEnd(node)) {
                    noteLeft(node, distance);
                } else {
                    goOnFrom(node, distance);
                }
            }
        }

        /** Only what was reached is wiped: most methods reach a small part of all nodes. */
        private void forget() {
            for (int at = 0; at < reached; at++) {
                before[order[at]] = 0;
            }
            reached = 0;
            findings = 0;
            mostOpen = 0;
            mostEntered = 0;
            mostHeld = 0;
            Arrays.fill(nodesAt, 0);
            Arrays.fill(statesAt, 0);
            Arrays.fill(lengths, NONE);
        }

        private void reach(int node, int from) {
            if (before[node] == 0 && reached < MOST_NODES) {
                before[node] = from + 1;
                order[reached] = node;
                reached++;
            }
        }

        private void goOnFrom(int node, int distance) {
            int fault = moves.faultAt(node);
            if (fault != NONE) {
                note(fault, steps.ts[placeOf(node)], node, distance + 1);
            }
            reach(moves.follow(node, fault, 0), node);
            if (moves.hasTwoChoices(node, fault)) {
                reach(moves.follow(node, fault, 1), node);
            }
        }

        private void survey(int node) {
            int place = placeOf(node);
            int all = allOf(node);
            int open = 0;
            int entered = 0;
            int held = 0;
            nodesAt[place]++;
            for (int thing = 0; thing < things.size; thing++) {
                int state = stateIn(all, thing);
                statesAt[place * MOST_THINGS + thing] |= 1 << state;
                if (things.isHeld(all, thing)) {
                    held++;
                    open += things.isFile(thing) ? 1 : 0;
                }
                entered += things.isFile(thing) ? 0 : state;
            }
            mostOpen = Math.max(mostOpen, open);
            mostEntered = Math.max(mostEntered, entered);
            mostHeld = Math.max(mostHeld, held);
        }

        private void noteLeft(int node, int distance) {
            int kind = placeOf(node) == RETURNED ? LEFT : LEFT_BY_THROW;
            for (int thing = 0; thing < things.size; thing++) {
                if (things.isHeld(allOf(node), thing)) {
                    note(kind, thing, node, distance);
                }
            }
        }

        private void note(int kind, int thing, int node, int length) {
            int finding = kind * MOST_THINGS + thing;
            if (lengths[finding] == NONE) {
                lengths[finding] = length;
                lastNodes[finding] = node;
                findings++;
            }
        }

        private int lengthOf(int kind, int thing) {
            return lengths[kind * MOST_THINGS + thing];
        }

        private int stepOnWay(int kind, int thing, int i) {
            int length = lengthOf(kind, thing);
            if (!isWithin(i, length)) {
                return NONE;
            }
            int node = lastNodes[kind * MOST_THINGS + thing];
            // A fault's step is the last of its way; an end's place is no step and lies behind it.
            int distance = moves.isEnd(node) ? length : length - 1;
            for (int at = distance; at > i; at--) {
                node = before[node] - 1;
            }
            return placeOf(node);
        }
    }

    /** The latest run by drawn choices. */
    private static final class Trial {
        private final int[] places = new int[MOST_RUN_STEPS];
        private boolean wasDriven = false;
        private int done = 0;
        private int chosen = 0;
        private int node = 0;
        private int thingsThen = 0;
        private int drawn = 0;

        private void forget() {
            wasDriven = false;
            done = 0;
        }

        private void drive(Moves moves, int seed, int limit) {
            wasDriven = true;
            done = 0;
            chosen = 0;
            drawn = seed;
            node = moves.firstNode();
            while (done < limit && done < MOST_RUN_STEPS && !moves.isEnd(node)) {
                int fault = moves.faultAt(node);
                int choice = moves.hasTwoChoices(node, fault) ? draw() : 0;
                places[done] = placeOf(node);
                done++;
                node = moves.follow(node, fault, choice);
            }
        }

        private int draw() {
            drawn = 1103515245 * drawn + 12345;
            chosen++;
            return (drawn >>> 16) & 1;
        }
    }
}
