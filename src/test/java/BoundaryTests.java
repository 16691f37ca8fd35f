import java.util.ArrayList;
import java.util.List;

/**
 * Each sentence of the document that names a boundary, in the document's order: the value at the bound,
 * the one just within and the one just outside; the empty object and the full one; each call that is
 * refused, and that nothing has changed behind it. No object is asked more than its 512 calls.
 */
public final class BoundaryTests {
    private static final int NONE = -1, UNKNOWN = -101, OUTSIDE = -102, STATE = -103, ROOM = -104;
    private static final int FILE = 0, MONITOR = 1;
    private static final int OPEN = 0, USE = 1, CLOSE = 2, KEEP = 3, BRANCH = 4, GO = 5, END = 6, FAIL = 7, ASK = 8;
    private static final int LEFT = 0, LEFT_BY_THROW = 1, OPENED_AGAIN = 2, USED = 3, CLOSED_AGAIN = 4;
    private static final int RETURNED = 40, THROWN_OUT = 41, IN_ALL = 42;
    private static final int LEAST = Integer.MIN_VALUE, MOST = Integer.MAX_VALUE;
    private static final int MOST_CALLS = 512;

    private static int wrong = 0;
    private static int asked = 0;

    private interface Call {
        int on(ResourceEnds x);
    }

    private record Question(String name, Call call) {
    }

    /** What is told to a new object: told again to another one, it leaves that one the same. */
    private static final class Story {
        private final List<Call> calls = new ArrayList<>();
        private List<Integer> picture = null;

        Story then(Call... more) {
            Story longer = new Story();
            longer.calls.addAll(calls);
            longer.calls.addAll(List.of(more));
            return longer;
        }

        Story thing(int sort, boolean lets, int inner) {
            return then(x -> x.thing(sort, lets, inner));
        }

        Story things(int sort, int howMany) {
            return howMany == 0 ? this : thing(sort, false, NONE).things(sort, howMany - 1);
        }

        Story step(int code, int t, int s, boolean mayThrow, int handler) {
            return then(x -> x.step(code, t, s, mayThrow, handler));
        }

        Story does(int code, int t) {
            return step(code, t, 0, false, NONE);
        }

        Story handled(int code, int t, int handler) {
            return step(code, t, 0, false, handler);
        }

        Story mayThrow(int code, int t, int handler) {
            return step(code, t, 0, true, handler);
        }

        Story goes(int code, int s) {
            return step(code, 0, s, false, NONE);
        }

        Story ends(int howMany) {
            return howMany == 0 ? this : does(END, 0).ends(howMany - 1);
        }

        Story check() {
            return then(ResourceEnds::check);
        }

        Story run(int seed, int steps) {
            return then(x -> x.run(seed, steps));
        }

        ResourceEnds object() {
            ResourceEnds x = new ResourceEnds();
            for (Call call : calls) {
                call.on(x);
            }
            return x;
        }

        int ask(Call call) {
            return call.on(object());
        }

        /** All that the object tells, and what it tells once it is checked, run or told more. */
        List<Integer> picture() {
            if (picture == null) {
                picture = new ArrayList<>(answers(this, NOW));
                picture.addAll(answers(check(), OF_CHECK));
                picture.addAll(answers(run(1, 100), OF_RUN));
                picture.add(ask(x -> x.thing(FILE, false, NONE)));
                picture.add(ask(x -> x.step(END, 0, 0, false, NONE)));
                picture.add(ask(ResourceEnds::clear));
            }
            return picture;
        }
    }

    private static final List<Question> OF_CHECK = questionsOfCheck();
    private static final List<Question> OF_RUN = questionsOfRun();
    private static final List<Question> NOW = questionsNow();

    private static List<Question> questionsOfCheck() {
        List<Question> all = new ArrayList<>();
        for (int thing = 0; thing < 5; thing++) {
            int t = thing;
            all.add(new Question("closed " + t, x -> x.closed(t)));
            for (int kind = 0; kind < 5; kind++) {
                int k = kind;
                all.add(new Question("found " + k + " " + t, x -> x.found(k, t)));
                for (int i = 0; i < 6; i++) {
                    int at = i;
                    all.add(new Question("way " + k + " " + t + " " + at, x -> x.way(k, t, at)));
                }
            }
            for (int step = 0; step < 42; step++) {
                int s = step;
                all.add(new Question("states " + s + " " + t, x -> x.states(s, t)));
            }
        }
        for (int step = 0; step < 43; step++) {
            int s = step;
            all.add(new Question("nodes " + s, x -> x.nodes(s)));
        }
        for (int what = 0; what < 3; what++) {
            int w = what;
            all.add(new Question("atOnce " + w, x -> x.atOnce(w)));
        }
        return all;
    }

    private static List<Question> questionsOfRun() {
        List<Question> all = new ArrayList<>();
        for (int i = 0; i <= 100; i++) {
            int at = i;
            all.add(new Question("ran " + at, x -> x.ran(at)));
        }
        for (int what = 0; what < 7; what++) {
            int w = what;
            all.add(new Question("came " + w, x -> x.came(w)));
        }
        return all;
    }

    private static List<Question> questionsNow() {
        List<Question> all = new ArrayList<>();
        for (int what = 0; what < 3; what++) {
            int w = what;
            all.add(new Question("count " + w, x -> x.count(w)));
        }
        for (int step = 0; step < 40; step++) {
            for (int what = 0; what < 5; what++) {
                int s = step;
                int w = what;
                all.add(new Question("told " + s + " " + w, x -> x.told(s, w)));
            }
        }
        all.addAll(OF_RUN);
        all.addAll(OF_CHECK);
        return all;
    }

    private static List<Integer> answers(Story story, List<Question> questions) {
        List<Integer> answers = new ArrayList<>();
        ResourceEnds x = null;
        int calls = MOST_CALLS;
        for (Question question : questions) {
            if (calls == MOST_CALLS) {
                x = story.object();
                calls = story.calls.size();
            }
            answers.add(question.call.on(x));
            calls++;
        }
        return answers;
    }

    private static void due(String what, int got, int want) {
        asked++;
        if (got != want) {
            wrong++;
            System.out.println(what + " answered " + got + ", due is " + want);
        }
    }

    private static void same(String what, Story got, Story want) {
        asked++;
        for (int i = 0; i < want.picture().size(); i++) {
            if (!got.picture().get(i).equals(want.picture().get(i))) {
                wrong++;
                String name = i < NOW.size() ? NOW.get(i).name : "later question " + (i - NOW.size());
                System.out.println(what + ": " + name + " answers " + got.picture().get(i) + ", due is " + want.picture().get(i));
                return;
            }
        }
    }

    private static void refused(String what, Story story, int answer, Call call) {
        due(what, story.ask(call), answer);
        same(what + ", nothing changes", story.then(call), story);
    }

    private static final Story EMPTY = new Story();
    private static final Story HALF = half();
    /** As HALF, but what was found no longer counts. */
    private static final Story STALE = HALF.does(END, 0);
    private static final Story FULL = full();
    private static final Story FULL_AND_STALE = FULL.then(x -> x.change(12, FAIL, 0, 0, false, 39));

    private static Story half() {
        return new Story().thing(FILE, true, NONE).thing(FILE, false, 0).thing(MONITOR, false, NONE)
            .does(OPEN, 0).mayThrow(OPEN, 1, 6).does(OPEN, 2).goes(BRANCH, 2)
            .does(CLOSE, 1).does(CLOSE, 0).mayThrow(USE, 0, NONE).handled(FAIL, 0, 39)
            .check().run(5, 100);
    }

    private static Story full() {
        Story story = new Story().thing(FILE, true, NONE).thing(FILE, false, 0).thing(MONITOR, false, NONE)
            .thing(FILE, true, 1).thing(MONITOR, true, NONE)
            .does(OPEN, 0).mayThrow(OPEN, 1, 8).does(OPEN, 3).handled(OPEN, 2, 5).goes(BRANCH, 3)
            .mayThrow(USE, 3, 8).does(CLOSE, 3).does(CLOSE, 3).handled(CLOSE, 2, 10).goes(GO, 8)
            .does(OPEN, 4).step(ASK, 4, 37, false, NONE);
        return story.ends(25).does(OPEN, 3).mayThrow(KEEP, 3, 39).mayThrow(CLOSE, 4, 0).check().run(5, 100);
    }

    public static void main(String[] args) {
        storiesAreAsTold();
        usedFor512Calls();
        constants();
        terms();
        promises1To5();
        promises6To11();
        promises12To17();
        System.out.println(asked + " answers at boundaries, " + wrong + " not as due");
        if (wrong != 0) {
            System.exit(1);
        }
    }

    private static void terms() {
        firstThatFits();
        thingsZeroToFour();
        innersOfLesserNumber();
        whatEachCodeDoes();
        heldOrNot();
        closeGoesInwards();
        whatIsNotLookedAt();
        handlersThereAndNot();
        whereItReturns();
        firstNode();
        choices();
        waysOfFindings();
        longWays();
        drawnChoices();
        drawnOnlyWhereThereAreTwo();
    }

    private static void promises1To5() {
        newObject();
        thingIsRefused();
        stepsZeroToThirtyNine();
        stepIsRefused();
        changeWithinItsBounds();
        changeIsRefused();
        checkIsAskedAnew();
        findingsFewAndMany();
    }

    private static void promises6To11() {
        foundIsRefused();
        wayIsRefused();
        closedIsRefused();
        closedAtEitherEnd();
        statesAtTheBounds();
        nodesAtTheBounds();
        atOnceAtTheBounds();
    }

    private static void promises12To17() {
        runWithinItsBounds();
        runIsRefused();
        ranAtTheBounds();
        cameAtTheBounds();
        thingsOfThen();
        toldAtTheBounds();
        countAtTheBounds();
        clearOfEmptyAndFull();
    }

    /** Every other test leans on these stories. */
    private static void storiesAreAsTold() {
        due("half: things", HALF.ask(x -> x.count(0)), 3);
        due("half: steps", HALF.ask(x -> x.count(1)), 8);
        due("half: all is found", HALF.ask(x -> x.count(2)), 1);
        due("stale: steps", STALE.ask(x -> x.count(1)), 9);
        due("stale: all is not found", STALE.ask(x -> x.count(2)), 0);
        due("full: things", FULL.ask(x -> x.count(0)), 5);
        due("full: steps", FULL.ask(x -> x.count(1)), 40);
        due("full: all is found", FULL.ask(x -> x.count(2)), 1);
        due("full: the last step is come to", FULL.ask(x -> x.states(39, 4)), 2);
        due("full and stale: steps", FULL_AND_STALE.ask(x -> x.count(1)), 40);
        due("full and stale: all is not found", FULL_AND_STALE.ask(x -> x.count(2)), 0);
    }

    /** "An object is used for at most 512 calls after it has been made". */
    private static void usedFor512Calls() {
        Story story = FULL.then(ResourceEnds::clear).thing(FILE, false, NONE).thing(MONITOR, false, NONE)
            .does(OPEN, 0).does(OPEN, 1).mayThrow(USE, 0, NONE);
        while (story.calls.size() < MOST_CALLS - 2) {
            story = story.then(x -> x.change(2, USE, 1, 0, true, NONE)).check();
        }
        while (story.calls.size() < MOST_CALLS - 1) {
            story = story.check();
        }
        due("512th call: thing", story.ask(x -> x.thing(FILE, false, 0)), 2);
        due("512th call: step", story.ask(x -> x.step(END, 0, 0, false, NONE)), 3);
        due("512th call: change", story.ask(x -> x.change(2, END, 0, 0, false, NONE)), USE);
        due("512th call: check", story.ask(ResourceEnds::check), 4);
        due("512th call: found", story.ask(x -> x.found(LEFT_BY_THROW, 1)), 3);
        due("512th call: way", story.ask(x -> x.way(LEFT_BY_THROW, 1, 2)), 2);
        due("512th call: nodes", story.ask(x -> x.nodes(IN_ALL)), 5);
        due("512th call: run", story.ask(x -> x.run(0, 100)), 3);
        due("512th call: clear", story.ask(ResourceEnds::clear), 3);
    }

    private static void constants() {
        due("NONE", ResourceEnds.NONE, -1);
        due("UNKNOWN", ResourceEnds.UNKNOWN, -101);
        due("OUTSIDE", ResourceEnds.OUTSIDE, -102);
        due("STATE", ResourceEnds.STATE, -103);
        due("ROOM", ResourceEnds.ROOM, -104);
    }

    /** "The first of these that fits: UNKNOWN, OUTSIDE, STATE, ROOM; then nothing changes." */
    private static void firstThatFits() {
        refused("thing: UNKNOWN before OUTSIDE", HALF, UNKNOWN, x -> x.thing(2, false, 3));
        refused("thing: UNKNOWN before ROOM", FULL, UNKNOWN, x -> x.thing(FILE, false, 5));
        refused("thing: OUTSIDE before ROOM", FULL, OUTSIDE, x -> x.thing(2, false, NONE));
        refused("thing: UNKNOWN of all three", FULL, UNKNOWN, x -> x.thing(2, false, 5));
        refused("step: UNKNOWN before OUTSIDE, s", HALF, UNKNOWN, x -> x.step(ASK, 3, 40, false, NONE));
        refused("step: UNKNOWN before OUTSIDE, handler", HALF, UNKNOWN, x -> x.step(OPEN, 3, 0, false, 40));
        refused("step: UNKNOWN before ROOM", FULL, UNKNOWN, x -> x.step(USE, 5, 0, false, NONE));
        refused("step: OUTSIDE before ROOM", FULL, OUTSIDE, x -> x.step(GO, 0, 40, false, NONE));
        refused("step: UNKNOWN of all three", FULL, UNKNOWN, x -> x.step(ASK, 5, 40, false, 40));
        refused("change: UNKNOWN before OUTSIDE, the step", HALF, UNKNOWN, x -> x.change(8, USE, 3, 0, false, NONE));
        refused("change: UNKNOWN before OUTSIDE, handler", HALF, UNKNOWN, x -> x.change(0, USE, 3, 0, false, 40));
        refused("found: UNKNOWN before OUTSIDE", HALF, UNKNOWN, x -> x.found(5, 3));
        refused("found: UNKNOWN before STATE", STALE, UNKNOWN, x -> x.found(0, 3));
        refused("found: OUTSIDE before STATE", STALE, OUTSIDE, x -> x.found(5, 0));
        refused("way: UNKNOWN before OUTSIDE", HALF, UNKNOWN, x -> x.way(5, 3, 0));
        refused("way: UNKNOWN before STATE", STALE, UNKNOWN, x -> x.way(0, 3, 0));
        refused("way: OUTSIDE before STATE", STALE, OUTSIDE, x -> x.way(5, 0, 0));
        refused("way: STATE before NONE", STALE, STATE, x -> x.way(0, 0, -1));
        refused("way: OUTSIDE before NONE", HALF, OUTSIDE, x -> x.way(5, 0, -1));
        refused("closed: UNKNOWN before STATE", STALE, UNKNOWN, x -> x.closed(3));
        refused("states: UNKNOWN before OUTSIDE", HALF, UNKNOWN, x -> x.states(42, 3));
        refused("states: UNKNOWN before STATE", STALE, UNKNOWN, x -> x.states(0, 3));
        refused("states: OUTSIDE before STATE", STALE, OUTSIDE, x -> x.states(42, 0));
        refused("nodes: OUTSIDE before STATE", STALE, OUTSIDE, x -> x.nodes(43));
        refused("atOnce: OUTSIDE before STATE", STALE, OUTSIDE, x -> x.atOnce(3));
        refused("came: OUTSIDE before STATE", EMPTY, OUTSIDE, x -> x.came(7));
    }

    /** "THINGS 0 to 4, as they come". */
    private static void thingsZeroToFour() {
        for (int sort = FILE; sort <= MONITOR; sort++) {
            int one = sort;
            for (int size = 0; size < 5; size++) {
                Story story = EMPTY.things(sort, size);
                due("thing " + size, story.ask(x -> x.thing(one, false, NONE)), size);
                due("one more thing than " + size, story.things(sort, 1).ask(x -> x.count(0)), size + 1);
            }
            refused("a sixth thing of sort " + one, EMPTY.things(sort, 5), ROOM, x -> x.thing(one, true, NONE));
            refused("a sixth thing, checked", EMPTY.things(sort, 5).does(OPEN, 4).check(), ROOM, x -> x.thing(one, true, NONE));
        }
        refused("full: a file", FULL, ROOM, x -> x.thing(FILE, true, NONE));
        refused("full: a wrapper of the first", FULL, ROOM, x -> x.thing(FILE, true, 0));
        refused("full: a wrapper of the last file", FULL, ROOM, x -> x.thing(FILE, false, 3));
        refused("full: a monitor", FULL_AND_STALE, ROOM, x -> x.thing(MONITOR, true, NONE));
    }

    /** "It may have an INNER, a FILE of a lesser number". */
    private static void innersOfLesserNumber() {
        for (int size = 0; size < 5; size++) {
            Story story = EMPTY.things(FILE, size);
            int own = size;
            refused("inner is itself, " + own, story, UNKNOWN, x -> x.thing(FILE, true, own));
            refused("inner is a later one, " + own, story, UNKNOWN, x -> x.thing(FILE, true, own + 1));
            if (size > 0) {
                due("inner is the one before", story.ask(x -> x.thing(FILE, true, own - 1)), own);
                due("inner is the first", story.ask(x -> x.thing(FILE, true, 0)), own);
            }
        }
    }

    /**
     * Each code that does something with a thing, for all that the thing can be. A row: the sort, whether it
     * lets itself be closed again, what it is, the code; what it is once done, and once thrown; or NONE and
     * the KIND of the fault.
     */
    private static final int[][] DOINGS = {
        {FILE, 0, 0, OPEN, 1, 0}, {FILE, 0, 1, OPEN, NONE, OPENED_AGAIN}, {FILE, 0, 2, OPEN, 1, 2}, {FILE, 0, 3, OPEN, 1, 3},
        {FILE, 0, 0, USE, NONE, USED}, {FILE, 0, 1, USE, 1, 1}, {FILE, 0, 2, USE, NONE, USED}, {FILE, 0, 3, USE, 3, 3},
        {FILE, 0, 0, CLOSE, NONE, CLOSED_AGAIN}, {FILE, 0, 1, CLOSE, 2, 2},
        {FILE, 0, 2, CLOSE, NONE, CLOSED_AGAIN}, {FILE, 0, 3, CLOSE, NONE, CLOSED_AGAIN},
        {FILE, 0, 0, KEEP, NONE, USED}, {FILE, 0, 1, KEEP, 3, 1}, {FILE, 0, 2, KEEP, NONE, USED}, {FILE, 0, 3, KEEP, NONE, USED},
        {FILE, 1, 0, OPEN, 1, 0}, {FILE, 1, 1, OPEN, NONE, OPENED_AGAIN}, {FILE, 1, 2, OPEN, 1, 2}, {FILE, 1, 3, OPEN, 1, 3},
        {FILE, 1, 0, USE, NONE, USED}, {FILE, 1, 1, USE, 1, 1}, {FILE, 1, 2, USE, NONE, USED}, {FILE, 1, 3, USE, 3, 3},
        {FILE, 1, 0, CLOSE, NONE, CLOSED_AGAIN}, {FILE, 1, 1, CLOSE, 2, 2},
        {FILE, 1, 2, CLOSE, 2, 2}, {FILE, 1, 3, CLOSE, NONE, CLOSED_AGAIN},
        {FILE, 1, 0, KEEP, NONE, USED}, {FILE, 1, 1, KEEP, 3, 1}, {FILE, 1, 2, KEEP, NONE, USED}, {FILE, 1, 3, KEEP, NONE, USED},
        {MONITOR, 0, 0, OPEN, 1, 0}, {MONITOR, 0, 1, OPEN, 2, 1}, {MONITOR, 0, 2, OPEN, 3, 2},
        {MONITOR, 0, 3, OPEN, NONE, OPENED_AGAIN},
        {MONITOR, 0, 0, USE, NONE, USED}, {MONITOR, 0, 1, USE, 1, 1}, {MONITOR, 0, 2, USE, 2, 2}, {MONITOR, 0, 3, USE, 3, 3},
        {MONITOR, 0, 0, CLOSE, NONE, CLOSED_AGAIN}, {MONITOR, 0, 1, CLOSE, 0, 0},
        {MONITOR, 0, 2, CLOSE, 1, 1}, {MONITOR, 0, 3, CLOSE, 2, 2},
        {MONITOR, 1, 0, OPEN, 1, 0}, {MONITOR, 1, 2, OPEN, 3, 2}, {MONITOR, 1, 3, OPEN, NONE, OPENED_AGAIN},
        {MONITOR, 1, 0, USE, NONE, USED}, {MONITOR, 1, 2, USE, 2, 2}, {MONITOR, 1, 3, USE, 3, 3},
        {MONITOR, 1, 0, CLOSE, NONE, CLOSED_AGAIN}, {MONITOR, 1, 2, CLOSE, 1, 1}, {MONITOR, 1, 3, CLOSE, 2, 2},
    };

    /** A method at whose end thing t is what is wanted, by the fewest steps. */
    private static Story become(Story story, int sort, int t, int state) {
        Story now = story;
        if (sort == MONITOR) {
            for (int entered = 0; entered < state; entered++) {
                now = now.does(OPEN, t);
            }
            return now;
        }
        now = state == 0 ? now : now.does(OPEN, t);
        return state == 2 ? now.does(CLOSE, t) : state == 3 ? now.does(KEEP, t) : now;
    }

    private static int stepsToBecome(int sort, int state) {
        return sort == MONITOR ? state : state < 2 ? state : 2;
    }

    private static void whatEachCodeDoes() {
        for (int[] row : DOINGS) {
            for (int thing = 0; thing < 5; thing += 4) {
                Story things = EMPTY.things(FILE, thing).thing(row[0], row[1] == 1, NONE);
                Story before = become(things, row[0], thing, row[2]);
                int length = stepsToBecome(row[0], row[2]);
                String name = "sort " + row[0] + " lets " + row[1] + " is " + row[2] + " code " + row[3] + " thing " + thing;
                dueOfDoing(name, row, thing, before.does(row[3], thing), length, 0);
                dueOfDoing(name + " may throw", row, thing, before.mayThrow(row[3], thing, NONE), length, 1);
                dueOfDoing(name + " handled", row, thing, before.mayThrow(row[3], thing, length + 2).does(END, 0).does(FAIL, 0), length, 1);
            }
        }
    }

    private static void dueOfDoing(String name, int[] row, int t, Story story, int length, int mayThrow) {
        ResourceEnds x = story.check().object();
        boolean fault = row[4] == NONE;
        int done = fault ? 0 : 1 << row[4];
        int thrown = fault ? 1 << row[2] : mayThrow == 1 ? 1 << row[5] : 0;
        due(name + ": once done", x.states(RETURNED, t), done);
        due(name + ": once thrown", x.states(THROWN_OUT, t), thrown);
        for (int kind = OPENED_AGAIN; kind <= CLOSED_AGAIN; kind++) {
            boolean isIt = fault && kind == row[5];
            due(name + ": kind " + kind, x.found(kind, t), isIt ? length + 1 : NONE);
            due(name + ": last of its way, kind " + kind, x.way(kind, t, length), isIt ? length : NONE);
        }
        x.run(0, 100);
        due(name + ": choices", x.came(1), fault ? 0 : mayThrow);
        due(name + ": what it was then", x.came(2 + t), fault ? row[2] : row[4]);
        x.run(-1, 100);
        due(name + ": what it was then, thrown", x.came(2 + t), fault ? row[2] : mayThrow == 1 ? row[5] : row[4]);
    }

    /** "A thing is HELD: a FILE that is OPEN, a MONITOR above 0." "ASK t s: to s, if it is HELD, else on." */
    private static void heldOrNot() {
        for (int sort = FILE; sort <= MONITOR; sort++) {
            for (int state = 0; state < 4; state++) {
                Story before = become(EMPTY.things(sort, 1), sort, 0, state);
                int at = stepsToBecome(sort, state);
                ResourceEnds x = before.step(ASK, 0, at + 2, true, NONE).does(END, 0).does(FAIL, 0).check().object();
                boolean held = sort == FILE ? state == 1 : state > 0;
                String name = "sort " + sort + " is " + state;
                due(name + ": ASK to s", x.nodes(at + 2), held ? 1 : 0);
                due(name + ": ASK on", x.nodes(at + 1), held ? 0 : 1);
                due(name + ": held at THROWN OUT", x.found(LEFT_BY_THROW, 0), held ? at + 2 : NONE);
                due(name + ": is closed", x.closed(0), held ? 0 : 1);
                due(name + ": held at most", x.atOnce(2), state == 0 ? 0 : 1);
                ResourceEnds y = before.check().object();
                due(name + ": held at RETURNED", y.found(LEFT, 0), held ? at : NONE);
            }
        }
    }

    /** "Its INNER that is OPEN, and so on (one that is not OPEN ends this)". */
    private static void closeGoesInwards() {
        for (int size = 1; size <= 5; size++) {
            for (int gap = 0; gap <= size - 1; gap++) {
                for (int state = 0; state < 4; state++) {
                    dueOfClosing(size, gap, state);
                }
            }
        }
        Story again = EMPTY.things(FILE, 1).thing(FILE, true, 0).does(OPEN, 1).does(CLOSE, 1).does(OPEN, 0).does(CLOSE, 1).check();
        due("closed again, the wrapper lets: nothing", again.ask(x -> x.states(RETURNED, 1)), 4);
        due("closed again, the inner stays open", again.ask(x -> x.states(RETURNED, 0)), 2);
    }

    /** A chain of wrappers, all OPEN but one; the outermost is closed. */
    private static void dueOfClosing(int size, int gap, int state) {
        Story story = EMPTY;
        for (int thing = 0; thing < size; thing++) {
            story = story.thing(FILE, false, thing - 1);
        }
        for (int thing = 0; thing < size; thing++) {
            story = become(story, FILE, thing, thing == gap ? state : 1);
            // Closing the one at the gap closes what is within, which is opened anew.
            for (int within = 0; within < thing && thing == gap && state == 2; within++) {
                story = story.does(OPEN, within);
            }
        }
        ResourceEnds x = story.mayThrow(CLOSE, size - 1, NONE).check().object();
        boolean fault = gap == size - 1 && state != 1;
        for (int thing = 0; thing < size; thing++) {
            String name = "chain of " + size + ", " + gap + " is " + state + ": " + thing;
            int was = thing == gap ? state : 1;
            boolean closes = !fault && was == 1 && (thing >= gap || state == 1);
            due(name + " thrown", x.states(THROWN_OUT, thing), 1 << (closes ? 2 : was));
            due(name + " done", x.states(RETURNED, thing), fault ? 0 : 1 << (closes ? 2 : was));
        }
    }

    /** "What a code does not name is not looked at", and MAY THROW "of others" than codes 0 to 3. */
    private static void whatIsNotLookedAt() {
        int[] any = {LEAST, -2, NONE, 1, 5, 40, MOST};
        for (int number : any) {
            for (int code = BRANCH; code <= FAIL; code++) {
                int c = code;
                due("t " + number + " of code " + c, EMPTY.ask(x -> x.step(c, number, 0, false, NONE)), 0);
            }
            for (int code : new int[] {OPEN, USE, CLOSE, KEEP, END, FAIL}) {
                due("s " + number + " of code " + code, EMPTY.things(FILE, 1).ask(x -> x.step(code, 0, number, false, NONE)), 0);
            }
        }
        for (int code = BRANCH; code <= ASK; code++) {
            Story plain = EMPTY.things(FILE, 1).step(code, 0, 2, false, 3).ends(4);
            Story may = EMPTY.things(FILE, 1).step(code, 0, 2, true, 3).ends(4);
            for (int place = 0; place <= IN_ALL; place++) {
                int p = place;
                due("MAY THROW of code " + code + " at " + p, may.check().ask(x -> x.nodes(p)), plain.check().ask(x -> x.nodes(p)));
            }
        }
    }

    /** "What throws goes to its HANDLER; without one the method is THROWN OUT": all handlers that can be told. */
    private static void handlersThereAndNot() {
        for (int size = 2; size <= 40; size += 19) {
            for (int handler = NONE; handler < 40; handler++) {
                ResourceEnds x = EMPTY.goes(GO, 1).handled(FAIL, 0, handler).ends(size - 2).check().object();
                String name = size + " steps, handler " + handler;
                boolean goesRound = handler == 0 || handler == 1;
                boolean isEnd = handler > 1 && handler < size;
                due(name + ": thrown out", x.nodes(THROWN_OUT), handler == NONE ? 1 : 0);
                due(name + ": returned", x.nodes(RETURNED), handler > 1 ? 1 : 0);
                due(name + ": in all", x.nodes(IN_ALL), goesRound ? 2 : isEnd ? 4 : 3);
                due(name + ": a run of two", x.run(0, 2), 2);
                due(name + ": came to", x.came(0), handler == NONE ? THROWN_OUT : handler < size ? handler : RETURNED);
            }
        }
    }

    /** "Behind the last STEP, by END, and at a STEP that there is not, it RETURNS." */
    private static void whereItReturns() {
        for (int size = 1; size <= 40; size++) {
            int last = size - 1;
            Story before = EMPTY.things(FILE, 2);
            for (int step = 0; step < last; step++) {
                before = before.does(step == 0 ? OPEN : USE, 0);
            }
            dueReturned("behind the last of " + size, before.does(last == 0 ? OPEN : USE, 0), size);
            dueReturned("by END of " + size, before.does(END, 0), size);
            dueReturned("BRANCH on behind the last of " + size, before.goes(BRANCH, last), size);
            dueReturned("ASK on behind the last of " + size, before.step(ASK, 1, last, false, NONE), size);
            if (size < 40) {
                dueReturned("GO just behind the last of " + size, before.goes(GO, size), size);
                dueReturned("GO 39 of " + size, before.goes(GO, 39), size);
                dueReturned("BRANCH just behind the last of " + size, before.goes(BRANCH, size), size);
                dueReturned("ASK just behind the last of " + size, before.step(ASK, 0, size, false, NONE), size);
                dueReturned("handler just behind the last of " + size, before.handled(FAIL, 0, size), size);
            }
            due("GO the last of " + size, before.goes(GO, last).check().ask(x -> x.nodes(RETURNED)), 0);
        }
    }

    private static void dueReturned(String name, Story story, int length) {
        ResourceEnds x = story.check().object();
        due(name, x.nodes(RETURNED), 1);
        due(name + ": not thrown out", x.nodes(THROWN_OUT), 0);
        due(name + ": in all", x.nodes(IN_ALL), length + 1);
        due(name + ": run", x.run(0, 100), length);
        due(name + ": came to", x.came(0), RETURNED);
    }

    /** "The first one is STEP 0 (RETURNED, if there is none), all 0." */
    private static void firstNode() {
        for (int things = 0; things <= 5; things++) {
            ResourceEnds none = EMPTY.things(FILE, things).check().object();
            ResourceEnds one = EMPTY.things(MONITOR, things).does(END, 0).check().object();
            due("no step: step 0", none.nodes(0), 0);
            due("no step: RETURNED", none.nodes(RETURNED), 1);
            due("no step: in all", none.nodes(IN_ALL), 1);
            due("one step: step 0", one.nodes(0), 1);
            due("one step: in all", one.nodes(IN_ALL), 2);
            for (int t = 0; t < things; t++) {
                due("no step: thing " + t, none.states(RETURNED, t), 1);
                due("one step: thing " + t, one.states(0, t), 1);
            }
        }
    }

    /** "Of BRANCH on (0), to s (1); of one that MAY THROW, without a FAULT, done (0), thrown (1); else one alone." */
    private static void choices() {
        int bitIsZero = 0;
        int bitIsOne = -1;
        Story branch = EMPTY.goes(BRANCH, 2).ends(3);
        due("BRANCH on", branch.run(bitIsZero, 1).ask(x -> x.came(0)), 1);
        due("BRANCH to s", branch.run(bitIsOne, 1).ask(x -> x.came(0)), 2);
        Story open = EMPTY.things(FILE, 1).mayThrow(OPEN, 0, 2).ends(3);
        due("done", open.run(bitIsZero, 1).ask(x -> x.came(0)), 1);
        due("thrown", open.run(bitIsOne, 1).ask(x -> x.came(0)), 2);
        due("BRANCH to itself", EMPTY.goes(BRANCH, 0).check().ask(x -> x.nodes(IN_ALL)), 2);
        due("BRANCH to the next, two choices", EMPTY.goes(BRANCH, 1).run(bitIsOne, 9).ask(x -> x.came(1)), 1);
        due("BRANCH to the next, one node", EMPTY.goes(BRANCH, 1).check().ask(x -> x.nodes(IN_ALL)), 2);
        int[] alone = {GO, END, FAIL, ASK};
        for (int code : alone) {
            Story story = EMPTY.things(FILE, 1).step(code, 0, 1, true, 1);
            due("one choice alone, code " + code, story.run(bitIsOne, 9).ask(x -> x.came(1)), 0);
            due("one node behind, code " + code, story.check().ask(x -> x.nodes(IN_ALL)), 2);
        }
    }

    private static void dueWay(String name, Story story, int kind, int thing, int... steps) {
        ResourceEnds x = story.check().object();
        due(name + ": its length", x.found(kind, thing), steps.length);
        for (int i = 0; i < steps.length; i++) {
            due(name + ": at " + i, x.way(kind, thing, i), steps[i]);
        }
        due(name + ": before its first", x.way(kind, thing, -1), NONE);
        due(name + ": behind its last", x.way(kind, thing, steps.length), NONE);
        due(name + ": far before", x.way(kind, thing, LEAST), NONE);
        due(name + ": far behind", x.way(kind, thing, MOST), NONE);
    }

    /** "The fewest that can be; of several that of which the choices, from the first on, are the lesser ones." */
    private static void waysOfFindings() {
        Story file = EMPTY.things(FILE, 1);
        dueWay("a way of one step", file.does(OPEN, 0), LEFT, 0, 0);
        dueWay("a fault at the first step", file.does(USE, 0), USED, 0, 0);
        dueWay("with the one that has the fault", file.does(OPEN, 0).does(OPEN, 0), OPENED_AGAIN, 0, 0, 1);
        dueWay("a throw is a step", file.does(OPEN, 0).does(FAIL, 0), LEFT_BY_THROW, 0, 0, 1);
        Story either = file.goes(BRANCH, 3);
        dueWay("as long: on", either.does(OPEN, 0).does(END, 0).does(OPEN, 0).does(END, 0), LEFT, 0, 0, 1, 2);
        dueWay("one shorter: to s", either.does(OPEN, 0).goes(GO, 4).does(OPEN, 0), LEFT, 0, 0, 3);
        dueWay("one longer: on", either.does(OPEN, 0).goes(GO, 5).does(OPEN, 0).goes(GO, 5), LEFT, 0, 0, 1, 2);
        Story thrown = file.does(OPEN, 0).mayThrow(USE, 0, 3);
        dueWay("as long: done", thrown.does(END, 0).does(END, 0), LEFT, 0, 0, 1, 2);
        dueWay("one shorter: thrown", thrown.goes(GO, 4), LEFT, 0, 0, 1);
        Story first = file.goes(BRANCH, 3).goes(BRANCH, 5).does(END, 0).goes(BRANCH, 5).does(END, 0).does(USE, 0);
        dueWay("the first choice counts before the later ones", first, USED, 0, 0, 1, 5);
    }

    /** Four monitors that count to three each, the later ones when the one before has come to its end. */
    private static Story counter() {
        Story story = EMPTY.things(MONITOR, 4).things(FILE, 1);
        for (int digit = 0; digit < 4; digit++) {
            story = story.handled(OPEN, digit, 5 * digit + 2).goes(GO, 0);
            for (int left = 0; left < 3 && digit < 3; left++) {
                story = story.does(CLOSE, digit);
            }
        }
        return story.does(OPEN, 4).does(END, 0);
    }

    /**
     * Ways far longer than there are steps. The first monitor comes to its fault by 7 steps; each later one
     * by 4 times those of the one before, with 3 that leave it and one that enters, and 3 times GO.
     */
    private static void longWays() {
        ResourceEnds x = counter().check().object();
        int length = 7;
        for (int digit = 0; digit < 4; digit++) {
            due("opened again " + digit, x.found(OPENED_AGAIN, digit), length);
            due("opened again " + digit + ": its last", x.way(OPENED_AGAIN, digit, length - 1), 5 * digit);
            due("opened again " + digit + ": behind it", x.way(OPENED_AGAIN, digit, length), NONE);
            length = digit < 3 ? 4 * (length + 4) + 3 : length;
        }
        due("the longest", length, 847);
        due("left behind all", x.found(LEFT, 4), length + 2);
        due("left behind all: its first", x.way(LEFT, 4, 0), 0);
        due("left behind all: the one before its last", x.way(LEFT, 4, length), 17);
        due("left behind all: its last", x.way(LEFT, 4, length + 1), 18);
        due("left behind all: behind it", x.way(LEFT, 4, length + 2), NONE);
        due("each node is come to once", x.nodes(IN_ALL), length + 3);
        due("a run of it", x.run(0, 100), 100);
        due("without a choice", x.came(1), 0);
    }

    /** The first 100 choices of a SEED, by another program; of the later ones the first x stands behind. */
    private static final Object[][] DRAWN = {
        {0, "0001011100101011010101110100010100100110101101010110111100001011110001001000110100110110010001001001"},
        {1, "0011110100110011111000111011000100110110001110110010010001111110010110000000011010100111010110110101"},
        {-1, "1100100100111010101110000100111100000100101010001010000011101001010001111111000010101101011010011011"},
        {MOST, "1100100100111010101110000100111100000100101010001010000011101001010001111111000010101101011010011011"},
        {LEAST, "0001011100101011010101110100010100100110101101010110111100001011110001001000110100110110010001001001"},
        {12345, "0010111001010110101011101000101001001101011010101101111000010111100010010001101001101100100010010010"},
        // 0, 0x7FFFFFFF, 0x80000000, 0xFFFFFFFF, 0xFFFF, 0x10000, 0x1FFFF, 0x20000
        {-59267453, "0000101110010101101010111010001010010011010110101011011110000101111000100100011010011011001000100100"},
        {-1916945634, "1110010010011101010111000010011110000010010101000101000001110100101000111111100001010110101101001101"},
        {2088216195, "0000101110010101101010111010001010010011010110101011011110000101111000100100011010011011001000100100"},
        {230538014, "1110010010011101010111000010011110000010010101000101000001110100101000111111100001010110101101001101"},
        {-115164386, "0001101101100010101000111101100001111101101010111010111110001011010111000000011110101001010010110010"},
        {-404969853, "1111010001101010010101000101110101101100101001010100100001111010000111011011100101100100110111011011"},
        {-460866786, "1110010010011101010111000010011110000010010101000101000001110100101000111111100001010110101101001101"},
        {-750672253, "0000101110010101101010111010001010010011010110101011011110000101111000100100011010011011001000100100"},
    };

    /** Each step draws: with 1 it goes back to step 0, with 0 it goes on. */
    private static Story drawsOnly() {
        Story story = EMPTY;
        for (int step = 0; step < 40; step++) {
            story = story.goes(BRANCH, 0);
        }
        return story;
    }

    /** "x (the SEED at first) becomes 1103515245 x + 12345, in 32 bits, and the choice is bit 16 of it." */
    private static void drawnChoices() {
        for (Object[] row : DRAWN) {
            int seed = (Integer) row[0];
            String choices = (String) row[1];
            ResourceEnds x = drawsOnly().object();
            due("seed " + seed, x.run(seed, 100), 100);
            due("seed " + seed + ": chose", x.came(1), 100);
            int place = 0;
            for (int i = 0; i < 100; i++) {
                due("seed " + seed + " at " + i, x.ran(i), place);
                place = choices.charAt(i) == '1' ? 0 : place + 1;
            }
            due("seed " + seed + ": came to", x.came(0), place);
        }
    }

    /** "Where there are two": a step with one choice leaves x as it is. */
    private static void drawnOnlyWhereThereAreTwo() {
        Story story = EMPTY.things(FILE, 1)
            .mayThrow(USE, 0, 1).goes(GO, 2).step(ASK, 0, 9, true, NONE).handled(FAIL, 0, 4)
            .goes(BRANCH, 3).goes(GO, 6).goes(BRANCH, 5).ends(1).run(-1, 100);
        // Choices 1, 1, 0, 0: back to 3 twice, then on; then on.
        int[] steps = {0, 1, 2, 3, 4, 3, 4, 3, 4, 5, 6, 7};
        for (int i = 0; i < steps.length; i++) {
            int at = i;
            due("at " + at, story.ask(x -> x.ran(at)), steps[at]);
        }
        due("behind", story.ask(x -> x.ran(steps.length)), NONE);
        due("chose", story.ask(x -> x.came(1)), 4);
        due("returned", story.ask(x -> x.came(0)), RETURNED);
    }

    /** Promise 1: "No THINGS, no STEPS." */
    private static void newObject() {
        due("new: things", EMPTY.ask(x -> x.count(0)), 0);
        due("new: steps", EMPTY.ask(x -> x.count(1)), 0);
        due("new: not asked yet", EMPTY.ask(x -> x.count(2)), 0);
        refused("new: closed", EMPTY, UNKNOWN, x -> x.closed(0));
        refused("new: found", EMPTY, UNKNOWN, x -> x.found(0, 0));
        refused("new: way", EMPTY, UNKNOWN, x -> x.way(0, 0, 0));
        refused("new: states", EMPTY, UNKNOWN, x -> x.states(0, 0));
        refused("new: nodes", EMPTY, STATE, x -> x.nodes(0));
        refused("new: nodes in all", EMPTY, STATE, x -> x.nodes(IN_ALL));
        refused("new: told", EMPTY, OUTSIDE, x -> x.told(0, 0));
        refused("new: change", EMPTY, OUTSIDE, x -> x.change(0, END, 0, 0, false, NONE));
        for (int what = 0; what < 3; what++) {
            int w = what;
            refused("new: atOnce " + w, EMPTY, STATE, x -> x.atOnce(w));
        }
        for (int what = 0; what < 7; what++) {
            int w = what;
            refused("new: came " + w, EMPTY, STATE, x -> x.came(w));
        }
        refused("new: ran", EMPTY, NONE, x -> x.ran(0));
        same("two new objects", new Story(), EMPTY);
    }

    /** Promise 2: "UNKNOWN: the inner; OUTSIDE: sort, an inner that is a MONITOR, or of a MONITOR; ROOM." */
    private static void thingIsRefused() {
        for (Story story : List.of(EMPTY, HALF, STALE, FULL)) {
            for (int sort : new int[] {LEAST, -2, -1, 2, 3, MOST}) {
                refused("sort " + sort, story, OUTSIDE, x -> x.thing(sort, true, NONE));
            }
            for (int inner : new int[] {LEAST, UNKNOWN, -2, 5, 6, MOST}) {
                refused("inner " + inner + " of a file", story, UNKNOWN, x -> x.thing(FILE, true, inner));
                refused("inner " + inner + " of a monitor", story, UNKNOWN, x -> x.thing(MONITOR, true, inner));
            }
        }
        for (Story story : List.of(HALF, STALE)) {
            due("sort 0", story.ask(x -> x.thing(0, true, NONE)), 3);
            due("sort 1", story.ask(x -> x.thing(1, true, NONE)), 3);
            due("the inner at its bound", story.ask(x -> x.thing(FILE, true, 1)), 3);
        }
        for (Story story : List.of(HALF, STALE, FULL)) {
            refused("inner is a monitor", story, OUTSIDE, x -> x.thing(FILE, true, 2));
            refused("inner of a monitor", story, OUTSIDE, x -> x.thing(MONITOR, true, 1));
            refused("a monitor in a monitor", story, OUTSIDE, x -> x.thing(MONITOR, true, 2));
        }
    }

    /** Promise 3: "A STEP: its number", 0 to 39, "also one that is to come". */
    private static void stepsZeroToThirtyNine() {
        for (int size = 0; size < 40; size++) {
            int number = size;
            due("step " + size, EMPTY.ends(size).ask(x -> x.step(END, 0, 0, false, NONE)), number);
            due("one more step than " + size, EMPTY.ends(size + 1).ask(x -> x.count(1)), size + 1);
        }
        for (Story story : List.of(EMPTY.ends(40), EMPTY.ends(40).check(), FULL, FULL_AND_STALE)) {
            for (int code = BRANCH; code <= FAIL; code++) {
                int c = code;
                refused("a 41st step, code " + c, story, ROOM, x -> x.step(c, 0, 39, true, 39));
            }
        }
        for (int code = OPEN; code <= ASK; code++) {
            int c = code;
            refused("full: code " + c, FULL, ROOM, x -> x.step(c, 3, 0, true, NONE));
            due("code " + c, EMPTY.things(FILE, 1).ask(x -> x.step(c, 0, 0, false, NONE)), 0);
            due("code " + c + ", the last things and steps", HALF.ask(x -> x.step(c, 1, 39, true, 39)), 8);
        }
    }

    private interface Teller {
        int tell(ResourceEnds x, int code, int t, int s, boolean mayThrow, int handler);
    }

    /** Promise 3: "UNKNOWN: t; OUTSIDE: code, s, the handler, KEEP of a MONITOR; ROOM." */
    private static void stepIsRefused() {
        for (Story story : List.of(EMPTY.things(FILE, 1), HALF, STALE, FULL)) {
            tellingIsRefused("step", story, ResourceEnds::step);
        }
        for (Story story : List.of(HALF, STALE, FULL)) {
            refused("step: KEEP of a monitor", story, OUTSIDE, x -> x.step(KEEP, 2, 0, false, NONE));
        }
        for (int code : new int[] {OPEN, USE, CLOSE, KEEP, ASK}) {
            refused("step: no thing at all, code " + code, EMPTY, UNKNOWN, x -> x.step(code, 0, 0, false, NONE));
            refused("step: t just outside, code " + code, HALF, UNKNOWN, x -> x.step(code, 3, 0, false, NONE));
            due("step: t just within, code " + code, HALF.ask(x -> x.step(code, 1, 0, false, NONE)), 8);
        }
        due("step: t at its bound", HALF.ask(x -> x.step(CLOSE, 2, 0, false, NONE)), 8);
    }

    private static void tellingIsRefused(String name, Story story, Teller teller) {
        for (int code : new int[] {LEAST, -2, -1, 9, 10, MOST}) {
            refused(name + ": code " + code, story, OUTSIDE, x -> teller.tell(x, code, 0, 0, false, NONE));
            refused(name + ": code " + code + " names no thing", story, OUTSIDE, x -> teller.tell(x, code, 5, 0, false, NONE));
        }
        for (int code : new int[] {OPEN, USE, CLOSE, KEEP, ASK}) {
            for (int t : new int[] {LEAST, -2, NONE, 5, MOST}) {
                refused(name + ": t " + t + " of code " + code, story, UNKNOWN, x -> teller.tell(x, code, t, 0, true, 3));
            }
        }
        for (int code : new int[] {BRANCH, GO, ASK}) {
            for (int s : new int[] {LEAST, -2, NONE, 40, 41, MOST}) {
                refused(name + ": s " + s + " of code " + code, story, OUTSIDE, x -> teller.tell(x, code, 0, s, true, 3));
            }
        }
        for (int code = OPEN; code <= ASK; code++) {
            int c = code;
            for (int handler : new int[] {LEAST, -2, 40, 41, MOST}) {
                refused(name + ": handler " + handler + " of code " + c, story, OUTSIDE, x -> teller.tell(x, c, 0, 0, true, handler));
            }
        }
    }

    /** Promise 4: "A STEP that is there becomes another one: its code before." */
    private static void changeWithinItsBounds() {
        for (int before = OPEN; before <= ASK; before++) {
            for (int after = OPEN; after <= ASK; after++) {
                int code = after;
                Story story = EMPTY.things(FILE, 1).step(before, 0, 1, false, NONE);
                due("change " + before + " to " + code, story.ask(x -> x.change(0, code, 0, 39, true, 39)), before);
                same("changed from " + before + " to " + code, story.then(x -> x.change(0, code, 0, 39, true, 39)),
                    EMPTY.things(FILE, 1).step(code, 0, 39, true, 39));
            }
        }
        due("the first of forty", FULL.ask(x -> x.change(0, END, 0, 0, false, NONE)), OPEN);
        due("the last of forty", FULL.ask(x -> x.change(39, END, 0, 0, false, NONE)), CLOSE);
        due("the last of eight", HALF.ask(x -> x.change(7, END, 0, 0, false, NONE)), FAIL);
        Story lastOfFull = FULL.then(x -> x.change(39, KEEP, 3, 0, false, NONE));
        due("the one before the last stays", lastOfFull.ask(x -> x.told(38, 0)), KEEP);
        due("the last is another", lastOfFull.ask(x -> x.told(39, 1)), 3);
        due("as many steps", lastOfFull.ask(x -> x.count(1)), 40);
    }

    /** Promise 4: "UNKNOWN: t; OUTSIDE: also the STEP." */
    private static void changeIsRefused() {
        for (Story story : List.of(HALF, STALE, FULL)) {
            tellingIsRefused("change", story, (x, code, t, s, may, handler) -> x.change(1, code, t, s, may, handler));
            refused("change: KEEP of a monitor", story, OUTSIDE, x -> x.change(1, KEEP, 2, 0, false, NONE));
            for (int step : new int[] {LEAST, -2, -1, 40, 41, MOST}) {
                refused("change: step " + step, story, OUTSIDE, x -> x.change(step, END, 0, 0, false, NONE));
            }
        }
        refused("change: just behind the last", HALF, OUTSIDE, x -> x.change(8, END, 0, 0, false, NONE));
        refused("change: one that is to come", HALF, OUTSIDE, x -> x.change(39, END, 0, 0, false, NONE));
    }

    /** Promise 5: "Behind thing(), step(), change(), that were not refused, it has to be asked anew". */
    private static void checkIsAskedAnew() {
        for (Story story : List.of(EMPTY.check(), HALF, EMPTY.things(MONITOR, 2).does(OPEN, 1).check())) {
            dueAnew("thing", story.thing(FILE, false, NONE));
            dueAnew("step", story.does(END, 0));
            dueAnew("check, thing, run", story.check().thing(MONITOR, false, NONE).run(1, 5));
            dueAnew("step, refused step", story.does(END, 0).does(9, 0));
            due("check again", story.check().ask(x -> x.count(2)), 1);
            same("check twice", story.check(), story);
            same("refused calls", story.thing(2, false, NONE).does(9, 0).then(x -> x.change(40, END, 0, 0, false, NONE)), story);
        }
        dueAnew("change", HALF.then(x -> x.change(7, END, 0, 0, false, NONE)));
        dueAnew("change to the same", HALF.then(x -> x.change(7, FAIL, 0, 0, false, 39)));
        dueAnew("clear", HALF.then(ResourceEnds::clear));
        due("run leaves it", HALF.run(3, 3).ask(x -> x.count(2)), 1);
    }

    private static void dueAnew(String name, Story story) {
        due("behind " + name, story.ask(x -> x.count(2)), 0);
        refused("behind " + name + ": nodes", story, STATE, x -> x.nodes(IN_ALL));
        due("behind " + name + ", check", story.check().ask(x -> x.count(2)), 1);
        if (story.ask(x -> x.count(0)) > 0) {
            refused("behind " + name + ": found", story, STATE, x -> x.found(LEFT, 0));
            refused("behind " + name + ": way", story, STATE, x -> x.way(LEFT, 0, 0));
            refused("behind " + name + ": closed", story, STATE, x -> x.closed(0));
            refused("behind " + name + ": states", story, STATE, x -> x.states(RETURNED, 0));
        }
        for (int what = 0; what < 3; what++) {
            int w = what;
            refused("behind " + name + ": atOnce " + w, story, STATE, x -> x.atOnce(w));
        }
    }

    /** Promise 5: "How many FINDINGS", from none to one of each KIND of each THING. */
    private static void findingsFewAndMany() {
        due("none of an empty one", EMPTY.ask(ResourceEnds::check), 0);
        due("none of five things", EMPTY.things(FILE, 5).ask(ResourceEnds::check), 0);
        Story story = EMPTY.things(FILE, 5);
        for (int thing = 0; thing < 5; thing++) {
            int next = 4 * thing + 1;
            story = story.handled(USE, thing, next).handled(CLOSE, thing, next + 1).does(OPEN, thing).handled(OPEN, thing, next + 3);
        }
        Story all = story.goes(BRANCH, 22).does(END, 0).does(FAIL, 0);
        due("25 of five things", all.ask(ResourceEnds::check), 25);
        for (int thing = 0; thing < 5; thing++) {
            int t = thing;
            int[] lengths = {22, 22, 4 * t + 4, 4 * t + 1, 4 * t + 2};
            for (int kind = 0; kind < 5; kind++) {
                int k = kind;
                due("kind " + k + " of thing " + t, all.check().ask(x -> x.found(k, t)), lengths[k]);
            }
        }
        due("24 with one left out", all.then(x -> x.change(16, CLOSE, 4, 0, false, 17)).ask(ResourceEnds::check), 24);
        Story twice = EMPTY.things(FILE, 1).handled(USE, 0, 1).handled(USE, 0, 2).does(USE, 0);
        due("a kind of a thing counts once", twice.ask(ResourceEnds::check), 1);
    }

    /** Promise 6: "NONE: there is no such FINDING. UNKNOWN; OUTSIDE: the KIND; STATE." */
    private static void foundIsRefused() {
        for (int kind : new int[] {LEAST, -2, -1, 5, 6, MOST}) {
            refused("found: kind " + kind, HALF, OUTSIDE, x -> x.found(kind, 0));
            refused("way: kind " + kind, HALF, OUTSIDE, x -> x.way(kind, 0, 0));
        }
        for (int thing : new int[] {LEAST, -2, -1, 3, 4, 5, MOST}) {
            refused("found: thing " + thing, HALF, UNKNOWN, x -> x.found(0, thing));
            refused("way: thing " + thing, HALF, UNKNOWN, x -> x.way(0, thing, 0));
        }
        refused("found: thing 5 of five", FULL, UNKNOWN, x -> x.found(0, 5));
        for (int kind = 0; kind < 5; kind++) {
            int k = kind;
            refused("found: not asked, kind " + k, STALE, STATE, x -> x.found(k, 2));
            due("found: none, kind " + k, EMPTY.things(FILE, 5).check().ask(x -> x.found(k, 4)), NONE);
            due("way: none, kind " + k, EMPTY.things(FILE, 5).check().ask(x -> x.way(k, 4, 0)), NONE);
        }
    }

    /** Promise 7: "UNKNOWN; OUTSIDE: the KIND; STATE; NONE: there is none such." */
    private static void wayIsRefused() {
        for (int kind = 0; kind < 5; kind++) {
            int k = kind;
            refused("way: not asked, kind " + k, STALE, STATE, x -> x.way(k, 2, 0));
        }
        refused("way: thing 5 of five", FULL, UNKNOWN, x -> x.way(0, 5, 0));
        Story story = EMPTY.things(FILE, 5).does(OPEN, 4).does(USE, 4).check();
        int[] at = {LEAST, -2, -1, 0, 1, 2, 3, 40, MOST};
        int[] want = {NONE, NONE, NONE, 0, 1, NONE, NONE, NONE, NONE};
        for (int i = 0; i < at.length; i++) {
            int index = at[i];
            due("way: at " + index, story.ask(x -> x.way(LEFT, 4, index)), want[i]);
            due("way: of no finding at " + index, story.ask(x -> x.way(LEFT, 3, index)), NONE);
        }
    }

    /** Promise 8: "UNKNOWN; STATE." */
    private static void closedIsRefused() {
        for (int thing : new int[] {LEAST, -2, -1, 3, 4, 5, MOST}) {
            refused("closed: thing " + thing, HALF, UNKNOWN, x -> x.closed(thing));
            refused("closed: thing " + thing + ", not asked", STALE, UNKNOWN, x -> x.closed(thing));
        }
        for (int thing = 0; thing < 3; thing++) {
            int t = thing;
            refused("closed: not asked, thing " + t, STALE, STATE, x -> x.closed(t));
        }
        refused("closed: thing 5 of five", FULL, UNKNOWN, x -> x.closed(5));
    }

    /** Promise 8: "HELD at no RETURNED, THROWN OUT NODE". */
    private static void closedAtEitherEnd() {
        for (int t = 0; t < 5; t += 4) {
            int thing = t;
            for (int sort = FILE; sort <= MONITOR; sort++) {
                Story open = EMPTY.things(sort, 5).does(OPEN, t);
                due("held at RETURNED", open.check().ask(x -> x.closed(thing)), 0);
                due("held at THROWN OUT", open.does(FAIL, 0).check().ask(x -> x.closed(thing)), 0);
                due("held at both", open.mayThrow(USE, t, NONE).check().ask(x -> x.closed(thing)), 0);
                due("held at neither", open.mayThrow(CLOSE, t, NONE).check().ask(x -> x.closed(thing)), 1);
                due("held for ever", open.goes(GO, 1).check().ask(x -> x.closed(thing)), 1);
                due("another one is held", open.check().ask(x -> x.closed(4 - thing)), 1);
                due("never touched", EMPTY.things(sort, 5).check().ask(x -> x.closed(thing)), 1);
            }
        }
    }

    /** Promise 9: "at a STEP (0 to 39; 40 RETURNED, 41 THROWN OUT), as bits 0 to 3; 0: no NODE is there." */
    private static void statesAtTheBounds() {
        for (int step : new int[] {LEAST, -2, -1, 42, 43, MOST}) {
            refused("states: step " + step, HALF, OUTSIDE, x -> x.states(step, 0));
            refused("states: step " + step + " of a full one", FULL, OUTSIDE, x -> x.states(step, 4));
        }
        for (int thing : new int[] {LEAST, -2, -1, 3, 4, 5, MOST}) {
            refused("states: thing " + thing, HALF, UNKNOWN, x -> x.states(0, thing));
        }
        refused("states: thing 5 of five", FULL, UNKNOWN, x -> x.states(0, 5));
        for (int step = 0; step < 42; step++) {
            int s = step;
            due("states: not asked " + s, STALE.ask(x -> x.states(s, 0)), STATE);
            due("states: no node " + s, EMPTY.things(FILE, 1).check().ask(x -> x.states(s, 0)), s == RETURNED ? 1 : 0);
        }
        Story last = EMPTY.things(FILE, 4).things(MONITOR, 1).goes(GO, 39).ends(38).does(OPEN, 4).check();
        due("states: step 0", last.ask(x -> x.states(0, 4)), 1);
        due("states: step 38, not come to", last.ask(x -> x.states(38, 4)), 0);
        due("states: step 39", last.ask(x -> x.states(39, 4)), 1);
        due("states: RETURNED", last.ask(x -> x.states(RETURNED, 4)), 2);
        due("states: THROWN OUT", last.ask(x -> x.states(THROWN_OUT, 4)), 0);
        Story round = EMPTY.things(MONITOR, 1).goes(BRANCH, 3).handled(OPEN, 0, 4).goes(GO, 0).does(END, 0).does(FAIL, 0).check();
        due("states: all bits", round.ask(x -> x.states(0, 0)), 15);
        due("states: all bits, RETURNED", round.ask(x -> x.states(RETURNED, 0)), 15);
        due("states: bit 3 alone, THROWN OUT", round.ask(x -> x.states(THROWN_OUT, 0)), 8);
        due("states: bits 1 to 3", round.ask(x -> x.states(2, 0)), 14);
    }

    /** Promise 10: "of a STEP (0 to 39, 40, 41); 42: in all. OUTSIDE; STATE." */
    private static void nodesAtTheBounds() {
        for (int step : new int[] {LEAST, -2, -1, 43, 44, MOST}) {
            refused("nodes: " + step, HALF, OUTSIDE, x -> x.nodes(step));
            refused("nodes: " + step + " of a full one", FULL, OUTSIDE, x -> x.nodes(step));
        }
        for (int step = 0; step <= IN_ALL; step++) {
            int s = step;
            due("nodes: not asked " + s, STALE.ask(x -> x.nodes(s)), STATE);
            due("nodes: of an empty one " + s, EMPTY.check().ask(x -> x.nodes(s)), s >= RETURNED && s != THROWN_OUT ? 1 : 0);
        }
        ResourceEnds most = mostNodes().check().object();
        for (int step = 0; step < IN_ALL; step++) {
            due("nodes: the most of " + step, most.nodes(step), 1024);
        }
        due("nodes: the most in all", most.nodes(IN_ALL), 42 * 1024);
    }

    /** Five monitors entered or not in a loop, so that all that they can be together is at every step. */
    private static Story mostNodes() {
        Story story = EMPTY.things(MONITOR, 5);
        for (int thing = 0; thing < 5; thing++) {
            story = story.goes(BRANCH, 2 * thing + 2).handled(OPEN, thing, 2 * thing + 2);
        }
        story = story.goes(BRANCH, 0);
        for (int step = 11; step < 38; step++) {
            story = story.goes(BRANCH, 39);
        }
        return story.does(END, 0).does(FAIL, 0);
    }

    /** Promise 11: "at most", from none to all; "OUTSIDE; STATE." */
    private static void atOnceAtTheBounds() {
        for (int what : new int[] {LEAST, -2, -1, 3, 4, MOST}) {
            refused("atOnce: " + what, HALF, OUTSIDE, x -> x.atOnce(what));
            refused("atOnce: " + what + " of an empty one", EMPTY.check(), OUTSIDE, x -> x.atOnce(what));
        }
        Story files = EMPTY.things(FILE, 5);
        for (int thing = 0; thing < 5; thing++) {
            dueAtOnce("files " + thing, files, thing, 0, thing);
            files = files.does(OPEN, thing);
        }
        dueAtOnce("all files, the last one at RETURNED alone", files, 5, 0, 5);
        dueAtOnce("all files, then closed", files.does(CLOSE, 4).does(KEEP, 3), 5, 0, 5);
        Story monitors = EMPTY.things(MONITOR, 5);
        for (int entered = 0; entered < 15; entered++) {
            dueAtOnce("monitors " + entered, monitors, 0, entered, (entered + 2) / 3);
            monitors = monitors.does(OPEN, entered / 3);
        }
        dueAtOnce("all monitors", monitors, 0, 15, 5);
        dueAtOnce("all monitors, then a fault", monitors.does(OPEN, 4), 0, 15, 5);
        Story apart = EMPTY.things(FILE, 1).things(MONITOR, 2).does(OPEN, 1).does(OPEN, 1).does(CLOSE, 1).does(CLOSE, 1)
            .does(OPEN, 0).does(KEEP, 0).does(OPEN, 2).does(CLOSE, 2);
        dueAtOnce("never together", apart, 1, 2, 1);
        Story together = EMPTY.things(FILE, 2).things(MONITOR, 2).does(OPEN, 2).does(OPEN, 3).does(OPEN, 3)
            .does(OPEN, 0).does(OPEN, 1);
        dueAtOnce("together", together, 2, 3, 4);
    }

    private static void dueAtOnce(String name, Story story, int files, int sum, int held) {
        ResourceEnds x = story.check().object();
        due(name + ": files open", x.atOnce(0), files);
        due(name + ": sum of monitors", x.atOnce(1), sum);
        due(name + ": held", x.atOnce(2), held);
    }

    /** Promise 12: "A RUN of so many STEPS at most (1 to 100): how many were done." */
    private static void runWithinItsBounds() {
        Story ever = EMPTY.goes(GO, 0);
        for (int steps : new int[] {1, 2, 50, 99, 100}) {
            due("run: never ends, " + steps, ever.ask(x -> x.run(0, steps)), steps);
        }
        for (int steps = 1; steps <= 42; steps++) {
            int most = steps;
            Story ends = EMPTY.things(FILE, 1).does(OPEN, 0);
            for (int step = 1; step < 40; step++) {
                ends = ends.does(USE, 0);
            }
            due("run: of forty steps, " + most, ends.ask(x -> x.run(0, most)), Math.min(40, most));
            due("run: came to, " + most, ends.run(0, most).ask(x -> x.came(0)), Math.min(RETURNED, most));
            due("run: the last, " + most, ends.run(0, most).ask(x -> x.ran(Math.min(40, most) - 1)), Math.min(40, most) - 1);
        }
        due("run: of no step", EMPTY.ask(x -> x.run(0, 1)), 0);
        due("run: of no step", EMPTY.things(FILE, 5).ask(x -> x.run(0, 100)), 0);
        for (int seed : new int[] {LEAST, -1, 0, 1, MOST}) {
            due("run: any seed " + seed, ever.ask(x -> x.run(seed, 7)), 7);
        }
        same("run leaves what is found", EMPTY.things(FILE, 1).does(OPEN, 0).check().run(1, 1),
            EMPTY.things(FILE, 1).does(OPEN, 0).run(1, 1).check());
    }

    /** Promise 12: "OUTSIDE", which leaves the latest run as it was. */
    private static void runIsRefused() {
        for (Story story : List.of(EMPTY, EMPTY.run(0, 1), HALF, STALE, FULL)) {
            for (int steps : new int[] {LEAST, -1, 0, 101, 102, MOST}) {
                refused("run: " + steps, story, OUTSIDE, x -> x.run(7, steps));
            }
        }
    }

    /** Promise 13: "STEP i of the latest run(); NONE." */
    private static void ranAtTheBounds() {
        Story most = EMPTY.goes(GO, 1).goes(GO, 0).run(0, 100);
        int[] at = {LEAST, -2, -1, 0, 1, 98, 99, 100, 101, MOST};
        int[] want = {NONE, NONE, NONE, 0, 1, 0, 1, NONE, NONE, NONE};
        for (int i = 0; i < at.length; i++) {
            int index = at[i];
            due("ran: at " + index, most.ask(x -> x.ran(index)), want[i]);
            due("ran: none yet, at " + index, HALF.then(ResourceEnds::clear).ask(x -> x.ran(index)), NONE);
            due("ran: no step, at " + index, EMPTY.run(0, 100).ask(x -> x.ran(index)), NONE);
            due("ran: a shorter one later, at " + index, most.run(0, 1).ask(x -> x.ran(index)), index == 0 ? 0 : NONE);
        }
    }

    /** Promise 14: what = 0, 1, "2 and a THING's number (to 6)"; "OUTSIDE; STATE: there was none". */
    private static void cameAtTheBounds() {
        for (Story story : List.of(EMPTY, HALF, STALE, FULL)) {
            for (int what : new int[] {LEAST, -2, -1, 7, 8, MOST}) {
                refused("came: " + what, story, OUTSIDE, x -> x.came(what));
            }
        }
        Story five = EMPTY.things(MONITOR, 5).does(OPEN, 4).does(OPEN, 4).does(OPEN, 4).does(OPEN, 3).goes(BRANCH, 4).run(0, 100);
        int[] want = {RETURNED, 1, 0, 0, 0, 1, 3};
        for (int what = 0; what < 7; what++) {
            int w = what;
            due("came: " + w, five.ask(x -> x.came(w)), want[w]);
            refused("came: none behind clear " + w, FULL.then(ResourceEnds::clear), STATE, x -> x.came(w));
            refused("came: none behind a refused run " + w, EMPTY.run(0, 0), STATE, x -> x.came(w));
        }
        Story forty = EMPTY.ends(40).then(x -> x.change(0, GO, 0, 39, false, NONE));
        due("came: the last step", forty.run(0, 1).ask(x -> x.came(0)), 39);
        due("came: RETURNED", forty.run(0, 2).ask(x -> x.came(0)), RETURNED);
        due("came: THROWN OUT", forty.then(x -> x.change(39, FAIL, 0, 0, false, NONE)).run(0, 2).ask(x -> x.came(0)), THROWN_OUT);
        due("came: step 0", EMPTY.goes(GO, 0).run(0, 1).ask(x -> x.came(0)), 0);
        due("came: chose as often as can be", drawsOnly().run(0, 100).ask(x -> x.came(1)), 100);
        due("came: never chose", EMPTY.goes(GO, 0).run(0, 100).ask(x -> x.came(1)), 0);
    }

    /** Promise 14: "STATE: no such THING then." */
    private static void thingsOfThen() {
        for (int size = 0; size <= 5; size++) {
            Story story = EMPTY.things(FILE, size).run(0, 1);
            Story more = story.things(FILE, 5 - size);
            for (int thing = 0; thing < 5; thing++) {
                int what = 2 + thing;
                due("came: thing " + thing + " of " + size, story.ask(x -> x.came(what)), thing < size ? 0 : STATE);
                due("came: thing " + thing + " of " + size + " then", more.ask(x -> x.came(what)), thing < size ? 0 : STATE);
                due("came: thing " + thing + ", run anew", more.run(0, 1).ask(x -> x.came(what)), 0);
            }
        }
        Story changed = EMPTY.things(FILE, 1).does(OPEN, 0).run(0, 1).then(x -> x.change(0, END, 0, 0, false, NONE)).check();
        due("came: what it was then", changed.ask(x -> x.came(2)), 1);
        due("ran: as it was then", changed.ask(x -> x.ran(0)), 0);
    }

    /** Promise 15: "all as they were told. OUTSIDE: the STEP, what." */
    private static void toldAtTheBounds() {
        for (Story story : List.of(HALF, STALE, FULL)) {
            for (int number : new int[] {LEAST, -2, -1, 40, 41, MOST}) {
                refused("told: step " + number, story, OUTSIDE, x -> x.told(number, 0));
                refused("told: what " + number, story, OUTSIDE, x -> x.told(0, number));
            }
            refused("told: what 5", story, OUTSIDE, x -> x.told(0, 5));
            refused("told: neither", story, OUTSIDE, x -> x.told(40, 5));
        }
        due("told: just within", HALF.ask(x -> x.told(7, 0)), FAIL);
        refused("told: just behind the last", HALF, OUTSIDE, x -> x.told(8, 0));
        refused("told: one that is to come", HALF, OUTSIDE, x -> x.told(39, 0));
        due("told: the last of forty", FULL.ask(x -> x.told(39, 0)), CLOSE);
        int[][] rows = {{OPEN, 0, LEAST, NONE, 1}, {ASK, 4, 39, 39, 0}, {GO, MOST, 0, 0, 1}, {END, LEAST, MOST, NONE, 1},
            {FAIL, MOST, LEAST, 39, 0}, {BRANCH, -7, 39, 0, 1}, {KEEP, 4, 77, 1, 1}, {USE, 2, -1, 38, 0}};
        for (int[] row : rows) {
            Story story = EMPTY.things(FILE, 5).step(row[0], row[1], row[2], row[4] == 1, row[3]);
            Story changed = EMPTY.things(FILE, 5).does(END, 0).then(x -> x.change(0, row[0], row[1], row[2], row[4] == 1, row[3]));
            for (int what = 0; what < 5; what++) {
                int w = what;
                due("told: code " + row[0] + " what " + w, story.ask(x -> x.told(0, w)), row[w]);
                due("told: changed to code " + row[0] + " what " + w, changed.ask(x -> x.told(0, w)), row[w]);
            }
        }
    }

    /** Promise 16: what = 0, 1, 2; "OUTSIDE." */
    private static void countAtTheBounds() {
        for (Story story : List.of(EMPTY, HALF, STALE, FULL)) {
            for (int what : new int[] {LEAST, -2, -1, 3, 4, MOST}) {
                refused("count: " + what, story, OUTSIDE, x -> x.count(what));
            }
        }
        due("count: found of an empty one", EMPTY.check().ask(x -> x.count(2)), 1);
        due("count: no thing of many steps", EMPTY.ends(40).ask(x -> x.count(0)), 0);
        due("count: no step of many things", EMPTY.things(FILE, 5).ask(x -> x.count(1)), 0);
    }

    /** Promise 17: "All is as at the beginning: how many STEPS there were." */
    private static void clearOfEmptyAndFull() {
        due("clear: of an empty one", EMPTY.ask(ResourceEnds::clear), 0);
        due("clear: of things alone", EMPTY.things(FILE, 5).ask(ResourceEnds::clear), 0);
        due("clear: of one step", EMPTY.ends(1).ask(ResourceEnds::clear), 1);
        due("clear: of 39 steps", EMPTY.ends(39).ask(ResourceEnds::clear), 39);
        due("clear: of a full one", FULL.ask(ResourceEnds::clear), 40);
        due("clear: twice", FULL.then(ResourceEnds::clear).ask(ResourceEnds::clear), 0);
        for (Story story : List.of(EMPTY, EMPTY.check().run(0, 1), HALF, STALE, FULL, FULL_AND_STALE, mostNodes().check())) {
            Story cleared = story.then(ResourceEnds::clear);
            same("clear: as at the beginning", cleared, EMPTY);
            Story anew = cleared;
            for (Call call : HALF.calls) {
                anew = anew.then(call);
            }
            same("clear: told anew", anew, HALF);
        }
    }
}
