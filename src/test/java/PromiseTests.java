/** For each promise of the document: ordinary inputs, the edges that it names, wrong inputs. */
public final class PromiseTests {
    private static final int NONE = -1, UNKNOWN = -101, OUTSIDE = -102, STATE = -103, ROOM = -104;
    private static final int OPEN = 0, USE = 1, CLOSE = 2, KEEP = 3, BRANCH = 4, GO = 5, END = 6, FAIL = 7, ASK = 8;
    private static final int[] FAR = {Integer.MIN_VALUE, -102, -2, 43, 100_000, Integer.MAX_VALUE};

    private static int wrong = 0;
    private static int asked = 0;

    private static void due(String what, int got, int want) {
        asked++;
        if (got != want) {
            wrong++;
            System.out.println(what + " answered " + got + ", due is " + want);
        }
    }

    private static ResourceEnds withThings(int... sorts) {
        ResourceEnds x = new ResourceEnds();
        for (int sort : sorts) {
            x.thing(sort, false, NONE);
        }
        return x;
    }

    private static void plain(ResourceEnds x, int code, int t) {
        x.step(code, t, 0, false, NONE);
    }

    private static void throwing(ResourceEnds x, int code, int t, int handler) {
        x.step(code, t, 0, true, handler);
    }

    private static void jump(ResourceEnds x, int code, int s) {
        x.step(code, 0, s, false, NONE);
    }

    private static void dueWay(String name, ResourceEnds x, int kind, int thing, int... steps) {
        due(name + ": length", x.found(kind, thing), steps.length);
        for (int i = 0; i < steps.length; i++) {
            due(name + ": step " + i, x.way(kind, thing, i), steps[i]);
        }
        due(name + ": behind the last", x.way(kind, thing, steps.length), NONE);
        due(name + ": before the first", x.way(kind, thing, -1), NONE);
    }

    public static void main(String[] args) {
        newObject();
        things();
        stepsAreTaken();
        stepsAreRefused();
        changes();
        checks();
        findingsOfFiles();
        findingsOfMonitors();
        closingWrappers();
        closingAgain();
        throwingSteps();
        placesThatThereAreNot();
        asking();
        waysByChoices();
        refusedFindings();
        closedOrNot();
        statesOfThings();
        nodesOfSteps();
        heldAtOnce();
        runs();
        runsByTheSeed();
        latestRunStays();
        toldSteps();
        counts();
        clearing();
        manyNodes();
        allNodes();
        System.out.println(asked + " answers, " + wrong + " not as due");
        if (wrong != 0) {
            System.exit(1);
        }
    }

    private static void newObject() {
        ResourceEnds x = new ResourceEnds();
        due("1: things", x.count(0), 0);
        due("1: steps", x.count(1), 0);
        due("1: not yet found", x.count(2), 0);
        due("1: nodes", x.nodes(42), STATE);
        due("1: atOnce", x.atOnce(0), STATE);
        due("1: found", x.found(0, 0), UNKNOWN);
        due("1: closed", x.closed(0), UNKNOWN);
        due("1: told", x.told(0, 0), OUTSIDE);
        due("1: ran", x.ran(0), NONE);
        due("1: came", x.came(0), STATE);
        due("1: clear", x.clear(), 0);
        due("1: check", x.check(), 0);
        due("1: the first node is RETURNED", x.nodes(40), 1);
    }

    private static void things() {
        ResourceEnds x = new ResourceEnds();
        due("2: no inner yet", x.thing(0, false, 0), UNKNOWN);
        due("2: inner of a file that is itself", x.thing(0, false, 0), UNKNOWN);
        due("2: file", x.thing(0, true, NONE), 0);
        due("2: wrapper", x.thing(0, false, 0), 1);
        due("2: monitor", x.thing(1, true, NONE), 2);
        due("2: inner is a monitor", x.thing(0, false, 2), OUTSIDE);
        due("2: inner of a monitor", x.thing(1, false, 0), OUTSIDE);
        due("2: unknown inner of a monitor", x.thing(1, false, 3), UNKNOWN);
        due("2: sort 2", x.thing(2, false, NONE), OUTSIDE);
        due("2: sort -1", x.thing(-1, false, NONE), OUTSIDE);
        due("2: unknown before outside", x.thing(7, false, 3), UNKNOWN);
        for (int far : FAR) {
            due("2: sort " + far, x.thing(far, false, NONE), OUTSIDE);
            due("2: inner " + far, x.thing(0, false, far), UNKNOWN);
        }
        due("2: refused ones count for nothing", x.count(0), 3);
        due("2: two wrappers of one file", x.thing(0, false, 0), 3);
        due("2: wrapper of a wrapper", x.thing(0, false, 1), 4);
        due("2: room", x.thing(0, false, NONE), ROOM);
        due("2: unknown before room", x.thing(0, false, 5), UNKNOWN);
        due("2: outside before room", x.thing(1, false, 4), OUTSIDE);
        due("2: sort before room", x.thing(2, false, NONE), OUTSIDE);
        due("2: five", x.count(0), 5);
    }

    private static void stepsAreTaken() {
        ResourceEnds x = withThings(0);
        for (int code = 0; code <= 8; code++) {
            due("3: code " + code, x.step(code, 0, 39, true, 39), code);
        }
        due("3: t of GO is not looked at", x.step(GO, 77, 0, false, NONE), 9);
        due("3: t and s of END are not looked at", x.step(END, -5, 99, true, NONE), 10);
        due("3: t and s of FAIL are not looked at", x.step(FAIL, 5, -1, true, NONE), 11);
        due("3: t of BRANCH is not looked at", x.step(BRANCH, 1, 0, true, NONE), 12);
        due("3: s of USE is not looked at", x.step(USE, 0, 40, false, NONE), 13);
        while (x.count(1) < 40) {
            due("3: next number", x.step(END, 0, 0, false, NONE), x.count(1) - 1);
        }
        due("3: room", x.step(END, 0, 0, false, NONE), ROOM);
        due("3: unknown before room", x.step(USE, 1, 0, false, NONE), UNKNOWN);
        due("3: outside before room", x.step(END, 0, 0, false, 40), OUTSIDE);
        due("3: forty", x.count(1), 40);
    }

    private static void stepsAreRefused() {
        ResourceEnds x = withThings(0, 1);
        for (int code : new int[] {OPEN, USE, CLOSE, KEEP, ASK}) {
            due("3: unknown t of " + code, x.step(code, 2, 0, false, NONE), UNKNOWN);
            due("3: NONE as t of " + code, x.step(code, NONE, 0, false, NONE), UNKNOWN);
            due("3: unknown before outside, " + code, x.step(code, 2, 40, false, 40), UNKNOWN);
        }
        for (int code : new int[] {BRANCH, GO, ASK}) {
            due("3: s 40 of " + code, x.step(code, 0, 40, false, NONE), OUTSIDE);
            due("3: s NONE of " + code, x.step(code, 0, NONE, false, NONE), OUTSIDE);
        }
        for (int code = 0; code <= 8; code++) {
            due("3: handler 40 of " + code, x.step(code, 0, 0, false, 40), OUTSIDE);
            due("3: handler -2 of " + code, x.step(code, 0, 0, false, -2), OUTSIDE);
        }
        due("3: KEEP of a monitor", x.step(KEEP, 1, 0, false, NONE), OUTSIDE);
        due("3: code 9", x.step(9, 0, 0, false, NONE), OUTSIDE);
        due("3: code -1", x.step(-1, 0, 0, false, NONE), OUTSIDE);
        due("3: code 9 names no thing", x.step(9, 50, 0, false, NONE), OUTSIDE);
        for (int far : FAR) {
            due("3: code " + far, x.step(far, 0, 0, false, NONE), OUTSIDE);
            due("3: t " + far, x.step(ASK, far, 0, false, NONE), UNKNOWN);
            due("3: s " + far, x.step(GO, 0, far, false, NONE), OUTSIDE);
            due("3: handler " + far, x.step(FAIL, 0, 0, false, far), OUTSIDE);
        }
        due("3: nothing was taken", x.count(1), 0);
    }

    private static void changes() {
        ResourceEnds x = withThings(0, 1);
        due("4: no step yet", x.change(0, END, 0, 0, false, NONE), OUTSIDE);
        plain(x, OPEN, 0);
        plain(x, END, 0);
        due("4: left", x.check(), 1);
        due("4: code before", x.change(1, CLOSE, 0, 3, true, 7), END);
        due("4: asked anew", x.found(0, 0), STATE);
        due("4: told code", x.told(1, 0), CLOSE);
        due("4: told t", x.told(1, 1), 0);
        due("4: told s", x.told(1, 2), 3);
        due("4: told handler", x.told(1, 3), 7);
        due("4: told throw", x.told(1, 4), 1);
        due("4: not left", x.check(), 0);
        due("4: code before again", x.change(1, FAIL, 0, 0, false, NONE), CLOSE);
        due("4: left by a throw", x.check(), 1);
        due("4: step behind the last", x.change(2, END, 0, 0, false, NONE), OUTSIDE);
        due("4: unknown before the step", x.change(2, USE, 2, 0, false, NONE), UNKNOWN);
        due("4: KEEP of a monitor", x.change(1, KEEP, 1, 0, false, NONE), OUTSIDE);
        due("4: code", x.change(1, 9, 0, 0, false, NONE), OUTSIDE);
        due("4: s", x.change(1, GO, 0, 40, false, NONE), OUTSIDE);
        due("4: handler", x.change(1, GO, 0, 0, false, 40), OUTSIDE);
        for (int far : FAR) {
            due("4: step " + far, x.change(far, END, 0, 0, false, NONE), OUTSIDE);
        }
        due("4: refused ones leave all found", x.count(2), 1);
        due("4: refused ones leave the step", x.told(1, 0), FAIL);
        due("4: two steps", x.count(1), 2);
    }

    private static void checks() {
        ResourceEnds x = withThings(0);
        plain(x, OPEN, 0);
        due("5: one finding", x.check(), 1);
        due("5: again", x.check(), 1);
        due("5: all is found", x.count(2), 1);
        due("5: refused thing", x.thing(3, false, NONE), OUTSIDE);
        due("5: refused step", x.step(9, 0, 0, false, NONE), OUTSIDE);
        due("5: still found", x.found(0, 0), 1);
        x.run(1, 5);
        due("5: found behind run", x.found(0, 0), 1);
        x.thing(1, false, NONE);
        due("5: behind thing", x.found(0, 0), STATE);
        due("5: behind thing, way", x.way(0, 0, 0), STATE);
        due("5: behind thing, closed", x.closed(0), STATE);
        due("5: behind thing, states", x.states(0, 0), STATE);
        due("5: behind thing, nodes", x.nodes(0), STATE);
        due("5: behind thing, atOnce", x.atOnce(0), STATE);
        x.check();
        plain(x, OPEN, 0);
        due("5: behind step", x.found(0, 0), STATE);
        due("5: opened again, left by a throw", x.check(), 2);
        due("5: the finding of before is gone", x.found(0, 0), NONE);
        x.change(1, OPEN, 0, 0, false, NONE);
        due("5: behind a change to the same", x.count(2), 0);
        due("5: the same findings", x.check(), 2);
    }

    private static void findingsOfFiles() {
        ResourceEnds x = withThings(0);
        plain(x, USE, 0);
        due("6: use of a new one", x.check(), 1);
        dueWay("6: use of a new one", x, 3, 0, 0);
        x.change(0, CLOSE, 0, 0, false, NONE);
        due("6: close of a new one", x.check(), 1);
        dueWay("6: close of a new one", x, 4, 0, 0);
        x.change(0, KEEP, 0, 0, false, NONE);
        due("6: keep of a new one", x.check(), 1);
        dueWay("6: keep of a new one", x, 3, 0, 0);
        x.change(0, OPEN, 0, 0, false, NONE);
        due("6: left", x.check(), 1);
        dueWay("6: left", x, 0, 0, 0);
        plain(x, KEEP, 0);
        due("6: a kept one is not left", x.check(), 0);
        plain(x, USE, 0);
        due("6: a kept one is used", x.check(), 0);
        plain(x, KEEP, 0);
        due("6: kept again", x.check(), 1);
        dueWay("6: kept again", x, 3, 0, 0, 1, 2, 3);
        x.change(3, CLOSE, 0, 0, false, NONE);
        due("6: close of a kept one", x.check(), 1);
        dueWay("6: close of a kept one", x, 4, 0, 0, 1, 2, 3);
        x.change(3, OPEN, 0, 0, false, NONE);
        due("6: a kept one is opened", x.check(), 1);
        dueWay("6: a kept one is opened", x, 0, 0, 0, 1, 2, 3);
        x.change(1, CLOSE, 0, 0, false, NONE);
        due("6: use of a closed one", x.check(), 1);
        dueWay("6: use of a closed one", x, 3, 0, 0, 1, 2);
        x.change(2, OPEN, 0, 0, false, NONE);
        due("6: open, close, open, open", x.check(), 2);
        dueWay("6: opened again", x, 2, 0, 0, 1, 2, 3);
        dueWay("6: left by a throw", x, 1, 0, 0, 1, 2, 3);
        due("6: not used", x.found(3, 0), NONE);
        due("7: no such finding", x.way(3, 0, 0), NONE);
    }

    private static void findingsOfMonitors() {
        ResourceEnds x = withThings(1);
        plain(x, USE, 0);
        due("6: use of one not entered", x.check(), 1);
        dueWay("6: use of one not entered", x, 3, 0, 0);
        x.change(0, CLOSE, 0, 0, false, NONE);
        x.check();
        dueWay("6: left, not entered", x, 4, 0, 0);
        x.change(0, OPEN, 0, 0, false, NONE);
        plain(x, OPEN, 0);
        plain(x, OPEN, 0);
        plain(x, USE, 0);
        plain(x, CLOSE, 0);
        plain(x, USE, 0);
        plain(x, CLOSE, 0);
        plain(x, USE, 0);
        due("6: entered thrice, left twice", x.check(), 1);
        dueWay("6: entered thrice, left twice", x, 0, 0, 0, 1, 2, 3, 4, 5, 6, 7);
        plain(x, CLOSE, 0);
        due("6: left thrice", x.check(), 0);
        x.change(3, OPEN, 0, 0, false, NONE);
        due("6: entered a fourth time", x.check(), 2);
        dueWay("6: entered a fourth time", x, 2, 0, 0, 1, 2, 3);
        dueWay("6: left by its throw", x, 1, 0, 0, 1, 2, 3);
        due("9: still three", x.states(41, 0), 8);

        ResourceEnds lets = new ResourceEnds();
        lets.thing(1, true, NONE);
        plain(lets, CLOSE, 0);
        due("2: lets of a monitor counts for nothing", lets.check(), 1);
        due("2: lets of a monitor counts for nothing", lets.found(4, 0), 1);
    }

    private static void closingWrappers() {
        ResourceEnds x = new ResourceEnds();
        x.thing(0, false, NONE);
        x.thing(0, false, 0);
        x.thing(0, false, 1);
        plain(x, OPEN, 0);
        plain(x, OPEN, 1);
        plain(x, OPEN, 2);
        plain(x, CLOSE, 2);
        due("2: all three are closed", x.check(), 0);
        for (int thing = 0; thing < 3; thing++) {
            due("2: closed " + thing, x.states(40, thing), 4);
        }
        x.change(1, USE, 0, 0, false, NONE);
        due("2: one not open ends this", x.check(), 1);
        due("2: the innermost is left", x.found(0, 0), 4);
        due("2: the one between stays new", x.states(40, 1), 1);
        x.change(1, OPEN, 1, 0, false, NONE);
        x.change(3, CLOSE, 1, 0, false, NONE);
        due("2: the outer one is left", x.check(), 1);
        due("2: the outer one is left", x.found(0, 2), 4);
        due("2: the innermost is closed", x.closed(0), 1);
        x.change(3, CLOSE, 0, 0, false, NONE);
        due("2: close goes inwards alone", x.check(), 2);

        ResourceEnds five = new ResourceEnds();
        for (int thing = 0; thing < 5; thing++) {
            five.thing(0, false, thing - 1);
            plain(five, OPEN, thing);
        }
        plain(five, CLOSE, 4);
        due("2: all five are closed", five.check(), 0);
        due("2: the innermost of five", five.states(40, 0), 4);

        ResourceEnds both = new ResourceEnds();
        both.thing(0, true, NONE);
        both.thing(0, false, 0);
        plain(both, OPEN, 0);
        plain(both, OPEN, 1);
        plain(both, KEEP, 0);
        plain(both, CLOSE, 1);
        due("2: a kept inner stays kept", both.check(), 0);
        due("2: a kept inner stays kept", both.states(40, 0), 8);
    }

    private static void closingAgain() {
        ResourceEnds x = new ResourceEnds();
        x.thing(0, false, NONE);
        x.thing(0, true, 0);
        plain(x, CLOSE, 1);
        due("2: a new one that lets is not closed", x.check(), 1);
        due("2: a new one that lets is not closed", x.found(4, 1), 1);
        x.change(0, OPEN, 1, 0, false, NONE);
        plain(x, CLOSE, 1);
        plain(x, OPEN, 0);
        plain(x, CLOSE, 1);
        due("2: closing again leaves the inner open", x.check(), 1);
        dueWay("2: closing again leaves the inner open", x, 0, 0, 0, 1, 2, 3);
        plain(x, CLOSE, 0);
        due("2: then closed", x.check(), 0);
        plain(x, CLOSE, 0);
        due("2: one that does not let", x.check(), 1);
        dueWay("2: one that does not let", x, 4, 0, 0, 1, 2, 3, 4, 5);
        x.change(1, KEEP, 1, 0, false, NONE);
        due("2: a kept one that lets", x.check(), 2);
        dueWay("2: a kept one that lets", x, 4, 1, 0, 1, 2, 3);
        due("2: and the throw leaves the other", x.found(1, 0), 4);

        ResourceEnds again = new ResourceEnds();
        again.thing(0, true, NONE);
        plain(again, OPEN, 0);
        plain(again, CLOSE, 0);
        throwing(again, CLOSE, 0, NONE);
        again.check();
        due("3: closing again may throw too", again.nodes(41), 1);
        due("3: closing again may throw too", again.nodes(42), 5);
    }

    private static void throwingSteps() {
        ResourceEnds x = withThings(0);
        throwing(x, OPEN, 0, NONE);
        due("2: OPEN throws not having done it", x.check(), 1);
        due("2: OPEN throws not having done it", x.states(41, 0), 1);
        due("2: OPEN done", x.states(40, 0), 2);
        x.change(0, OPEN, 0, 0, false, NONE);
        throwing(x, CLOSE, 0, NONE);
        due("2: CLOSE throws having done it", x.check(), 0);
        due("2: CLOSE throws having done it", x.states(41, 0), 4);
        due("2: CLOSE done", x.states(40, 0), 4);
        x.change(1, KEEP, 0, 0, true, NONE);
        due("2: KEEP throws not having done it", x.check(), 1);
        dueWay("2: KEEP throws not having done it", x, 1, 0, 0, 1);
        due("2: KEEP throws not having done it", x.states(41, 0), 2);
        due("2: KEEP done", x.states(40, 0), 8);
        x.change(1, USE, 0, 0, true, NONE);
        due("2: USE throws", x.check(), 2);
        due("2: USE throws", x.states(41, 0), 2);
        for (int code = BRANCH; code <= ASK; code++) {
            x.change(1, code, 0, 2, true, NONE);
            x.check();
            due("2: MAY THROW is not looked at of code " + code, x.nodes(41), code == FAIL ? 1 : 0);
        }

        ResourceEnds wrapped = new ResourceEnds();
        wrapped.thing(0, false, NONE);
        wrapped.thing(0, false, 0);
        plain(wrapped, OPEN, 0);
        plain(wrapped, OPEN, 1);
        throwing(wrapped, CLOSE, 1, 5);
        due("2: the inner too, having thrown", wrapped.check(), 0);
        due("2: a handler that is not there", wrapped.nodes(41), 0);
        due("2: both come to one node", wrapped.nodes(40), 1);

        ResourceEnds monitor = withThings(1);
        throwing(monitor, OPEN, 0, 3);
        throwing(monitor, CLOSE, 0, 3);
        plain(monitor, END, 0);
        plain(monitor, FAIL, 0);
        due("2: a monitor is not entered, and is left", monitor.check(), 0);
        due("2: at the handler", monitor.states(3, 0), 1);

        ResourceEnds handled = withThings(0);
        handled.step(USE, 0, 0, true, 3);
        plain(handled, OPEN, 0);
        plain(handled, END, 0);
        due("2: a fault goes to the handler alone", handled.check(), 1);
        due("2: a fault is the one choice", handled.nodes(42), 2);
        due("2: behind the last it returns", handled.nodes(40), 1);
    }

    private static void placesThatThereAreNot() {
        ResourceEnds x = withThings(0);
        jump(x, GO, 39);
        x.check();
        due("2: a step that there is not", x.nodes(40), 1);
        due("2: no node is there", x.nodes(39), 0);
        x.change(0, FAIL, 0, 0, false, 39);
        x.check();
        due("2: a handler that there is not", x.nodes(40), 1);
        x.change(0, FAIL, 0, 0, false, 0);
        due("2: its own handler", x.check(), 0);
        due("2: never out", x.nodes(42), 1);
        due("8: never out is closed", x.closed(0), 1);
        x.change(0, FAIL, 0, 0, false, NONE);
        x.check();
        due("2: thrown out", x.nodes(41), 1);
        x.change(0, BRANCH, 0, 1, false, NONE);
        x.check();
        due("2: both choices come behind the last", x.nodes(42), 2);
    }

    private static void asking() {
        ResourceEnds x = withThings(0, 1);
        x.step(ASK, 0, 3, true, NONE);
        plain(x, OPEN, 0);
        jump(x, GO, 0);
        plain(x, KEEP, 0);
        x.step(ASK, 0, 0, true, NONE);
        x.step(ASK, 1, 8, true, NONE);
        plain(x, OPEN, 1);
        jump(x, GO, 5);
        plain(x, FAIL, 0);
        due("2: ASK goes on, or to s", x.check(), 1);
        dueWay("2: ASK goes on, or to s", x, 1, 1, 0, 1, 2, 0, 3, 4, 5, 6, 7, 5, 8);
        due("3: ASK is one choice", x.nodes(42), 12);
        due("12: ASK is one choice", x.run(8, 100), 11);
        due("14: ASK is one choice", x.came(1), 0);
    }

    private static void waysByChoices() {
        ResourceEnds x = withThings(0);
        jump(x, BRANCH, 3);
        plain(x, OPEN, 0);
        jump(x, GO, 5);
        plain(x, OPEN, 0);
        jump(x, GO, 5);
        plain(x, END, 0);
        due("7: two ways as long", x.check(), 1);
        dueWay("7: the lesser choices", x, 0, 0, 0, 1, 2, 5);
        x.change(1, GO, 0, 2, false, NONE);
        x.change(2, OPEN, 0, 0, false, NONE);
        x.change(3, OPEN, 0, 0, false, NONE);
        x.change(4, END, 0, 0, false, NONE);
        x.check();
        dueWay("7: the fewest steps", x, 0, 0, 0, 3, 4);

        ResourceEnds thrown = withThings(0);
        plain(thrown, OPEN, 0);
        throwing(thrown, USE, 0, 3);
        plain(thrown, END, 0);
        plain(thrown, END, 0);
        thrown.check();
        dueWay("7: done before thrown", thrown, 0, 0, 0, 1, 2);

        ResourceEnds later = withThings(0);
        jump(later, BRANCH, 4);
        jump(later, BRANCH, 3);
        plain(later, END, 0);
        jump(later, GO, 6);
        jump(later, BRANCH, 6);
        plain(later, END, 0);
        plain(later, USE, 0);
        due("7: a later step by lesser choices", later.check(), 1);
        dueWay("7: fewest, then the lesser", later, 3, 0, 0, 4, 6);
        later.change(4, GO, 0, 5, false, NONE);
        later.change(5, GO, 0, 6, false, NONE);
        later.check();
        dueWay("7: the first choice counts first", later, 3, 0, 0, 1, 3, 6);

        ResourceEnds many = withThings(0, 1);
        jump(many, BRANCH, 2);
        plain(many, OPEN, 0);
        plain(many, OPEN, 1);
        plain(many, END, 0);
        due("7: a finding of each thing", many.check(), 2);
        dueWay("7: of thing 0", many, 0, 0, 0, 1, 2, 3);
        dueWay("7: of thing 1", many, 0, 1, 0, 2, 3);

        ResourceEnds faults = withThings(0);
        faults.step(USE, 0, 0, false, 1);
        plain(faults, OPEN, 0);
        due("7: a fault on the way", faults.check(), 2);
        dueWay("7: a fault on the way", faults, 0, 0, 0, 1);
        dueWay("7: the fault itself", faults, 3, 0, 0);
    }

    private static void refusedFindings() {
        ResourceEnds x = withThings(0);
        plain(x, OPEN, 0);
        due("6: not checked", x.found(0, 0), STATE);
        due("7: not checked", x.way(0, 0, 0), STATE);
        due("6: outside before state", x.found(5, 0), OUTSIDE);
        due("7: outside before state", x.way(-1, 0, 0), OUTSIDE);
        due("6: unknown before outside", x.found(5, 1), UNKNOWN);
        due("7: unknown before outside", x.way(5, 1, 0), UNKNOWN);
        x.check();
        for (int kind = 1; kind < 5; kind++) {
            due("6: no finding of kind " + kind, x.found(kind, 0), NONE);
            due("7: no way of kind " + kind, x.way(kind, 0, 0), NONE);
        }
        for (int far : FAR) {
            due("6: kind " + far, x.found(far, 0), OUTSIDE);
            due("6: thing " + far, x.found(0, far), UNKNOWN);
            due("7: kind " + far, x.way(far, 0, 0), OUTSIDE);
            due("7: thing " + far, x.way(0, far, 0), UNKNOWN);
            due("7: i " + far, x.way(0, 0, far), NONE);
        }
        due("6: thing NONE", x.found(0, NONE), UNKNOWN);
        due("7: the first step", x.way(0, 0, 0), 0);
    }

    private static void closedOrNot() {
        ResourceEnds x = withThings(0, 0, 1);
        plain(x, OPEN, 0);
        plain(x, OPEN, 2);
        throwing(x, CLOSE, 2, NONE);
        throwing(x, CLOSE, 0, NONE);
        due("8: not checked", x.closed(0), STATE);
        due("8: left by a throw", x.check(), 1);
        due("8: thing 0", x.closed(0), 0);
        due("8: thing 1", x.closed(1), 1);
        due("8: thing 2", x.closed(2), 1);
        x.change(3, END, 0, 0, false, NONE);
        x.change(2, CLOSE, 2, 0, false, NONE);
        due("8: left", x.check(), 1);
        due("8: left", x.closed(0), 0);
        due("8: unknown", x.closed(3), UNKNOWN);
        due("8: unknown", x.closed(NONE), UNKNOWN);
        x.change(0, END, 0, 0, false, NONE);
        due("8: unknown before state", x.closed(3), UNKNOWN);
        due("8: state", x.closed(0), STATE);
        for (int far : FAR) {
            due("8: thing " + far, x.closed(far), UNKNOWN);
        }
    }

    private static void statesOfThings() {
        ResourceEnds x = withThings(0, 1);
        jump(x, BRANCH, 3);
        plain(x, OPEN, 1);
        x.step(ASK, 1, 0, false, NONE);
        throwing(x, OPEN, 0, NONE);
        jump(x, BRANCH, 6);
        plain(x, CLOSE, 0);
        plain(x, END, 0);
        due("9: state", x.states(0, 0), STATE);
        x.check();
        due("9: file at first", x.states(0, 0), 1);
        due("9: monitor in its loop", x.states(0, 1), 15);
        due("9: monitor behind its entry", x.states(2, 1), 14);
        due("9: file behind its opening", x.states(4, 0), 2);
        due("9: file open or closed", x.states(6, 0), 6);
        due("9: returned", x.states(40, 0), 6);
        due("9: thrown out", x.states(41, 0), 1);
        due("9: monitor thrown out", x.states(41, 1), 15);
        due("9: a step that there is not", x.states(7, 0), 0);
        due("9: step 39", x.states(39, 1), 0);
        due("9: step 42", x.states(42, 0), OUTSIDE);
        due("9: step -1", x.states(-1, 0), OUTSIDE);
        due("9: unknown before outside", x.states(42, 2), UNKNOWN);
        for (int far : FAR) {
            due("9: step " + far, x.states(far, 0), OUTSIDE);
            due("9: thing " + far, x.states(0, far), UNKNOWN);
        }
        plain(x, END, 0);
        due("9: outside before state", x.states(42, 0), OUTSIDE);
        due("9: anew", x.states(40, 0), STATE);
    }

    private static void nodesOfSteps() {
        ResourceEnds x = withThings(0, 0);
        jump(x, BRANCH, 2);
        plain(x, OPEN, 0);
        jump(x, BRANCH, 4);
        plain(x, OPEN, 1);
        plain(x, END, 0);
        plain(x, END, 0);
        due("10: state", x.nodes(0), STATE);
        due("10: outside before state", x.nodes(43), OUTSIDE);
        x.check();
        int[] want = {1, 1, 2, 2, 4, 0};
        for (int step = 0; step < want.length; step++) {
            due("10: step " + step, x.nodes(step), want[step]);
        }
        due("10: a step that there is not", x.nodes(6), 0);
        due("10: returned", x.nodes(40), 4);
        due("10: thrown out", x.nodes(41), 0);
        due("10: in all", x.nodes(42), 14);
        due("10: -1", x.nodes(-1), OUTSIDE);
        for (int far : FAR) {
            due("10: " + far, x.nodes(far), OUTSIDE);
        }
    }

    private static void heldAtOnce() {
        ResourceEnds x = withThings(0, 1, 0, 1);
        plain(x, OPEN, 0);
        plain(x, OPEN, 2);
        plain(x, CLOSE, 0);
        plain(x, KEEP, 2);
        plain(x, OPEN, 1);
        plain(x, OPEN, 1);
        plain(x, OPEN, 3);
        plain(x, OPEN, 1);
        plain(x, OPEN, 0);
        due("11: state", x.atOnce(0), STATE);
        due("11: outside before state", x.atOnce(3), OUTSIDE);
        x.check();
        due("11: open files", x.atOnce(0), 2);
        due("11: the sum of monitors", x.atOnce(1), 4);
        due("11: held things", x.atOnce(2), 3);
        due("11: -1", x.atOnce(-1), OUTSIDE);
        due("11: 3", x.atOnce(3), OUTSIDE);
        for (int far : FAR) {
            due("11: " + far, x.atOnce(far), OUTSIDE);
        }
        x.change(0, END, 0, 0, false, NONE);
        x.check();
        for (int what = 0; what < 3; what++) {
            due("11: nothing held " + what, x.atOnce(what), 0);
        }
    }

    private static void runs() {
        ResourceEnds x = new ResourceEnds();
        due("12: no step", x.run(3, 1), 0);
        due("14: returned at once", x.came(0), 40);
        due("14: no choice", x.came(1), 0);
        due("14: no such thing", x.came(2), STATE);
        due("13: no step", x.ran(0), NONE);
        due("12: steps 0", x.run(3, 0), OUTSIDE);
        due("12: steps 101", x.run(3, 101), OUTSIDE);
        due("12: steps -1", x.run(3, -1), OUTSIDE);
        due("12: far", x.run(3, Integer.MAX_VALUE), OUTSIDE);
        due("12: far", x.run(3, Integer.MIN_VALUE), OUTSIDE);
        x.thing(1, false, NONE);
        x.step(OPEN, 0, 0, true, 1);
        jump(x, GO, 0);
        due("12: a hundred", x.run(0, 100), 100);
        due("14: never out", x.came(0), 0);
        due("13: the last", x.ran(99), 1);
        due("13: behind the last", x.ran(100), NONE);
        due("13: before the first", x.ran(-1), NONE);
        due("12: one", x.run(Integer.MIN_VALUE, 1), 1);
        due("14: on the way", x.came(0), 1);
        due("13: the one", x.ran(0), 0);
        due("13: of the run of before", x.ran(1), NONE);
        for (int far : FAR) {
            due("13: " + far, x.ran(far), NONE);
            due("14: " + far, x.came(far), OUTSIDE);
        }
        due("14: -1", x.came(-1), OUTSIDE);
        due("14: 7", x.came(7), OUTSIDE);
        x.change(0, FAIL, 0, 0, false, NONE);
        due("12: thrown out", x.run(9, 100), 1);
        due("14: thrown out", x.came(0), 41);
        due("14: no choice of FAIL", x.came(1), 0);
    }

    /** The draws are told by arithmetic of longs, which needs no wrap-around. */
    private static void runsByTheSeed() {
        int[] seeds = {0, 1, 5, 77, -1, 123456789, Integer.MAX_VALUE, Integer.MIN_VALUE};
        for (int seed : seeds) {
            ResourceEnds x = new ResourceEnds();
            jump(x, BRANCH, 2);
            jump(x, GO, 3);
            jump(x, GO, 3);
            jump(x, GO, 0);
            x.run(seed, 100);
            long drawn = seed & 0xFFFFFFFFL;
            for (int i = 0; i < 100; i += 3) {
                drawn = (1103515245L * drawn + 12345L) & 0xFFFFFFFFL;
                int choice = (int) (drawn / 65536 % 2);
                due("12: seed " + seed + " at " + i, x.ran(i), 0);
                if (i + 2 < 100) {
                    due("12: seed " + seed + " at " + (i + 1), x.ran(i + 1), 1 + choice);
                    due("12: seed " + seed + " at " + (i + 2), x.ran(i + 2), 3);
                }
            }
            due("14: it chose", x.came(1), 34);
        }
        ResourceEnds fault = withThings(0);
        throwing(fault, USE, 0, 1);
        jump(fault, BRANCH, 2);
        due("12: a fault is no choice", fault.run(4, 100), 2);
        due("14: a branch is one, wherever it goes", fault.came(1), 1);
    }

    private static void latestRunStays() {
        ResourceEnds x = withThings(0, 1);
        plain(x, OPEN, 0);
        plain(x, OPEN, 1);
        plain(x, OPEN, 1);
        plain(x, CLOSE, 0);
        due("12: four", x.run(1, 50), 4);
        due("14: returned", x.came(0), 40);
        due("14: file", x.came(2), 2);
        due("14: monitor", x.came(3), 2);
        for (int what = 4; what <= 6; what++) {
            due("14: no thing " + (what - 2), x.came(what), STATE);
        }
        x.thing(0, false, NONE);
        due("14: no such thing then", x.came(4), STATE);
        x.change(0, END, 0, 0, false, NONE);
        x.check();
        due("14: as it was then", x.came(3), 2);
        due("13: as it was then", x.ran(3), 3);
        due("12: refused", x.run(1, 0), OUTSIDE);
        due("13: a refused run changes nothing", x.ran(3), 3);
        due("12: anew", x.run(1, 50), 1);
        due("14: now there is such a thing", x.came(4), 0);
        due("14: nothing was done", x.came(3), 0);
        due("12: no check is asked for", x.count(2), 1);
    }

    private static void toldSteps() {
        ResourceEnds x = withThings(0);
        x.step(END, 77, -88, true, 39);
        x.step(ASK, 0, 12, false, NONE);
        due("15: code", x.told(0, 0), END);
        due("15: t", x.told(0, 1), 77);
        due("15: s", x.told(0, 2), -88);
        due("15: handler", x.told(0, 3), 39);
        due("15: may throw", x.told(0, 4), 1);
        due("15: s of ASK", x.told(1, 2), 12);
        due("15: no handler", x.told(1, 3), NONE);
        due("15: may not throw", x.told(1, 4), 0);
        due("15: what 5", x.told(0, 5), OUTSIDE);
        due("15: what -1", x.told(0, -1), OUTSIDE);
        due("15: step 2", x.told(2, 0), OUTSIDE);
        due("15: step -1", x.told(-1, 0), OUTSIDE);
        for (int far : FAR) {
            due("15: step " + far, x.told(far, 0), OUTSIDE);
            due("15: what " + far, x.told(0, far), OUTSIDE);
        }
    }

    private static void counts() {
        ResourceEnds x = withThings(0, 1, 0);
        plain(x, END, 0);
        plain(x, END, 0);
        due("16: things", x.count(0), 3);
        due("16: steps", x.count(1), 2);
        due("16: not found", x.count(2), 0);
        x.check();
        due("16: found", x.count(2), 1);
        plain(x, END, 0);
        due("16: not found anew", x.count(2), 0);
        due("16: 3", x.count(3), OUTSIDE);
        due("16: -1", x.count(-1), OUTSIDE);
        for (int far : FAR) {
            due("16: " + far, x.count(far), OUTSIDE);
        }
    }

    private static void clearing() {
        ResourceEnds x = withThings(0, 0, 1, 1, 0);
        plain(x, OPEN, 0);
        plain(x, OPEN, 1);
        plain(x, OPEN, 2);
        due("17: left before", x.check(), 3);
        x.run(1, 10);
        due("17: steps there were", x.clear(), 3);
        due("17: things", x.count(0), 0);
        due("17: steps", x.count(1), 0);
        due("17: not found", x.count(2), 0);
        due("17: nodes", x.nodes(42), STATE);
        due("17: no run", x.came(0), STATE);
        due("17: no run", x.ran(0), NONE);
        due("17: no step", x.told(0, 0), OUTSIDE);
        due("17: no thing", x.closed(0), UNKNOWN);
        due("17: again", x.clear(), 0);
        due("17: no findings", x.check(), 0);
        due("17: one node", x.nodes(42), 1);
        due("17: none open", x.atOnce(2), 0);
        due("17: first thing anew", x.thing(1, false, NONE), 0);
        due("17: first step anew", x.step(OPEN, 0, 0, false, NONE), 0);
        due("17: found anew", x.check(), 1);
        due("17: the monitor is entered", x.states(40, 0), 2);
        due("17: nodes anew", x.nodes(42), 2);
    }

    /** Five monitors that are each entered up to three times, in a loop: 1024 states at the loop's head. */
    private static ResourceEnds fiveInALoop() {
        ResourceEnds x = withThings(1, 1, 1, 1, 1);
        for (int thing = 0; thing < 5; thing++) {
            jump(x, BRANCH, 2 * thing + 2);
            x.step(OPEN, thing, 0, false, 2 * thing + 2);
        }
        jump(x, BRANCH, 0);
        return x;
    }

    private static void allNodes() {
        ResourceEnds x = fiveInALoop();
        while (x.count(1) < 38) {
            jump(x, BRANCH, 39);
        }
        plain(x, END, 0);
        plain(x, FAIL, 0);
        for (int again = 0; again < 3; again++) {
            due("5: left both ways, opened again", x.check(), 15);
            due("10: all that there can be", x.nodes(42), 42 * 1024);
            for (int step = 0; step < 42; step++) {
                due("10: all of step " + step, x.nodes(step), 1024);
                due("9: all of step " + step, x.states(step, again), 15);
            }
            x.change(38, END, 0, 0, false, again);
        }
    }

    private static void manyNodes() {
        ResourceEnds x = fiveInALoop();
        while (x.count(1) < 40) {
            plain(x, USE, x.count(1) % 5);
        }
        due("5: of each thing all kinds but CLOSED AGAIN", x.check(), 20);
        due("10: at the head", x.nodes(0), 1024);
        due("10: at step 10", x.nodes(10), 1024);
        // Step 11 uses thing 1, the next ones 2, 3, 4 and 0: each stops those that are not entered.
        due("10: at step 11", x.nodes(11), 1024);
        due("10: at step 12", x.nodes(12), 768);
        due("10: at step 16", x.nodes(16), 243);
        due("10: returned", x.nodes(40), 243);
        due("10: thrown out", x.nodes(41), 1024 - 243);
        due("11: the sum", x.atOnce(1), 15);
        // A round that enters thing 0 alone is 0, 1, 2, 4, 6, 8, 10; the fourth one ends at 1.
        due("6: opened again", x.found(2, 0), 3 * 7 + 2);
        due("7: the last round", x.way(2, 0, 20), 10);
        due("7: the fault", x.way(2, 0, 22), 1);
        for (int again = 0; again < 150; again++) {
            x.change(39, USE, again % 5, 0, false, NONE);
            due("5: again " + again, x.check(), 20);
        }
    }
}
