import java.util.ArrayList;
import java.util.List;
import java.util.function.Consumer;
import java.util.function.Supplier;

/** Promises 6 to 12, sentence by sentence: what is an ACT, what is refused, what is taken back and done again. */
public final class ActEdgesTest {
    private static final String DOWN = "def f n = if n > 0 then f(n - 1) else 7; ";
    private static final int[] FAR = {Integer.MIN_VALUE, -1000, -1, 1000, Integer.MAX_VALUE};

    private ActEdgesTest() {
    }

    public static void main(String[] args) {
        soManyEvents();
        asLongAsSomeIsNotOver();
        runOfAnotherNumber();
        runIsAnAct();
        handlersThatCanBe();
        guessesAsAtFirst();
        handlersThatCannotBe();
        costOfAllSoFar();
        pricesThatCannotBe();
        sliceItWas();
        turnThatGoesOn();
        slicesThatCannotBe();
        overTasksAgain();
        turnIfAllWereOver();
        allElseStays();
        againRefused();
        whatIsAnAct();
        whatIsNone();
        takesBackTheLatest();
        doesAgainTheLast();
        tillAnotherAct();
        twelveAreKept();
        noneLeft();
        Rings.finish("ActEdgesTest");
    }

    private static void due(String what, long want, long got) {
        Rings.due(what, want, got);
    }

    private static void due(String what, boolean want, boolean got) {
        Rings.due(what, want, got);
    }

    /** Refused on objects of each sort, and nothing happens. */
    private static void refused(String call, Consumer<WindowRing> asked) {
        Twins.unchanged(call, Twins::amid, asked);
        Twins.unchanged(call, Twins::over, asked);
        Twins.unchanged(call, Twins::fresh, asked);
    }

    private static void soManyEvents() {
        Rings.sentence("So many EVENTS (1 .. 500)");
        String far = "slice 3; windows 4; def b n = if n < 2 then n else b(n - 1) + b(n - 2); task b 12; task b 11;";
        WindowRing ring = Rings.of(far);
        int events = 0;
        for (int n : new int[] {1, 2, 3, 7, 499, 500}) {
            due("run(" + n + ")", n, ring.run(n));
            events += n;
            due("about(3)", events, ring.about(3));
            due("of both", events, ring.task(0, 4) + ring.task(1, 4));
        }
        Twins.alikeNow("run(500) and twice run(250)", () -> {
            WindowRing one = Rings.of(far);
            one.run(500);
            return one;
        }, () -> {
            WindowRing other = Rings.of(far);
            other.run(250);
            other.run(249);
            other.run(1);
            return other;
        });
    }

    private static void asLongAsSomeIsNotOver() {
        Rings.sentence("as long as some TASK is not over: how many there were");
        for (int n : new int[] {9, 10, 11, 500}) {
            WindowRing ring = Rings.of(DOWN + "task f 1; task f 2;");
            due("run(" + n + ")", Math.min(n, 10), ring.run(n));
            due("no more than ten", n >= 10 ? 0 : 1, ring.run(500));
            due("EVENTS", 10, ring.about(3));
            due("all over", -1, ring.about(7));
        }
        due("all over", 0, Twins.over().run(1));
        due("all over", 0, Twins.over().run(500));
        due("no TASKS", 0, Rings.of(DOWN).run(500));
        due("FAILED", 61, Rings.of("def w = w(); task w;").run(500));
    }

    private static void runOfAnotherNumber() {
        Rings.sentence("NONE, doing nothing, for another number.");
        for (int n : new int[] {0, 501, -1, -500, Integer.MIN_VALUE, Integer.MAX_VALUE}) {
            due("run(" + n + ")", -1, Twins.amid().run(n));
            due("run(" + n + ")", -1, Twins.over().run(n));
            due("run(" + n + ")", -1, new WindowRing().run(n));
            refused("run(" + n + ")", ring -> ring.run(n));
        }
        // and without an EVENT nothing happens, either
        Twins.unchanged("run(1)", Twins::over, ring -> ring.run(1));
        Twins.unchanged("run(500)", Twins::fresh, ring -> ring.run(500));
    }

    private static void runIsAnAct() {
        Rings.sentence("(an ACT, if some were)");
        WindowRing ring = Rings.of(DOWN + "task f 1;");
        ring.run(1);
        due("an ACT", 1, ring.about(14));
        ring.run(500);
        due("an ACT", 2, ring.about(14));
        ring.run(500);
        due("none", 2, ring.about(14));
        ring.undo();
        ring.run(0);
        due("to be done again", 1, ring.about(15));
        ring.run(1);
        due("an ACT", 2, ring.about(14));
        due("nothing to be done again", 0, ring.about(15));
    }

    private static void handlersThatCanBe() {
        Rings.sentence("The HANDLER is another one (0 single, 1 fixed, 2 counter, 3 double; n as in a text, of 0 and 2 no matter)");
        WindowRing ring = Twins.amid();
        int[][] pairs = {{0, 0}, {1, 1}, {1, 8}, {2, 0}, {3, 1}, {3, 16}, {0, -1}, {0, 99}, {2, -1}, {2, 17},
            {0, Integer.MIN_VALUE}, {0, Integer.MAX_VALUE}, {2, Integer.MIN_VALUE}, {2, Integer.MAX_VALUE}, {2, 2}};
        for (int[] pair : pairs) {
            due("handler(" + pair[0] + ", " + pair[1] + ")", true, ring.handler(pair[0], pair[1]));
            due("about(10)", pair[0], ring.about(10));
            due("about(11)", pair[0] % 2 == 0 ? 0 : pair[1], ring.about(11));
        }
        // it is the one that a text would have told
        String[] ways = {"single", "fixed 3", "counter", "double 5"};
        for (int way = 0; way < 4; way++) {
            int n = way == 1 ? 3 : 5;
            int number = way;
            String text = "windows 3; slice 4;" + DOWN + "task f 7; task f 9;";
            Twins.alikeNow("handler " + ways[way], () -> Rings.of("handler " + ways[number] + ";" + text), () -> {
                WindowRing other = Rings.of(text);
                other.handler(number, n);
                return other;
            });
        }
    }

    private static void guessesAsAtFirst() {
        Rings.sentence("COUNTERS, GUESSES as at first: true");
        for (int way = 0; way < 4; way++) {
            WindowRing ring = Rings.of("windows 4; slice 9; handler counter;" + DOWN + "task f 20; task f 20;");
            ring.run(18);
            due("COUNTER", 3, ring.task(0, 6));
            due("COUNTER", 3, ring.task(1, 6));
            due("true", true, ring.handler(way, 8));
            for (int task = 0; task < 2; task++) {
                due("COUNTER", 1, ring.task(task, 6));
                due("GUESS", 0, ring.task(task, 7));
                due("all else stays", 9, ring.task(task, 4));
            }
            ring = Rings.of("windows 4; slice 9; handler double 8;" + DOWN + "task f 20; task f 20;");
            ring.run(18);
            due("GUESS", true, ring.task(0, 7) > 0 && ring.task(1, 7) > 0);
            ring.handler(way, 8);
            for (int task = 0; task < 2; task++) {
                due("COUNTER", 1, ring.task(task, 6));
                due("GUESS", 0, ring.task(task, 7));
            }
        }
        Twins.alikeNow("to what there is, with nothing guessed", () -> Rings.of("handler double 4;" + DOWN + "task f 9;"), () -> {
            WindowRing ring = Rings.of("handler double 4;" + DOWN + "task f 9;");
            ring.handler(3, 4);
            return ring;
        });
    }

    private static void handlersThatCannotBe() {
        Rings.sentence("false, and nothing happens, if it can't be.");
        List<int[]> pairs = new ArrayList<>(List.of(new int[] {-1, 1}, new int[] {4, 1}, new int[] {1, 0}, new int[] {1, 9},
            new int[] {3, 0}, new int[] {3, 17}, new int[] {1, -1}, new int[] {3, -1}));
        for (int far : FAR) {
            pairs.add(new int[] {far, 1});
            pairs.add(new int[] {1, far});
            pairs.add(new int[] {3, far});
        }
        for (int[] pair : pairs) {
            String call = "handler(" + pair[0] + ", " + pair[1] + ")";
            due(call, false, Twins.amid().handler(pair[0], pair[1]));
            due(call, false, new WindowRing().handler(pair[0], pair[1]));
            refused(call, ring -> ring.handler(pair[0], pair[1]));
        }
    }

    private static void costOfAllSoFar() {
        Rings.sentence("PRICES for a TRAP, a MOVE (0 .. 99 each): the COST by them of all so far");
        WindowRing ring = Twins.amid();
        int traps = ring.about(4);
        int moves = ring.about(5);
        due("some", true, traps > 20 && moves > traps);
        int[][] pairs = {{0, 0}, {0, 1}, {1, 0}, {99, 0}, {0, 99}, {99, 99}, {98, 1}};
        for (int[] pair : pairs) {
            due("price(" + pair[0] + ", " + pair[1] + ")", pair[0] * traps + pair[1] * moves, ring.price(pair[0], pair[1]));
            due("about(6)", pair[0] * traps + pair[1] * moves, ring.about(6));
            due("TRAPS stay", traps, ring.about(4));
            due("MOVES stay", moves, ring.about(5));
        }
        due("nothing so far", 0, Rings.of(DOWN + "task f 9;").price(99, 99));
        // what comes is by them, too
        ring = Rings.of("windows 2;" + DOWN + "task f 2;");
        ring.price(30, 4);
        ring.run(500);
        due("COST", 2 * 34, ring.about(6));
    }

    private static void pricesThatCannotBe() {
        Rings.sentence("NONE, doing nothing, if they can't be.");
        List<int[]> pairs = new ArrayList<>(List.of(new int[] {-1, 0}, new int[] {0, -1}, new int[] {100, 0}, new int[] {0, 100},
            new int[] {100, 100}, new int[] {-1, 100}, new int[] {-1, -1}));
        for (int far : FAR) {
            pairs.add(new int[] {far, 1});
            pairs.add(new int[] {1, far});
        }
        for (int[] pair : pairs) {
            String call = "price(" + pair[0] + ", " + pair[1] + ")";
            due(call, -1, Twins.amid().price(pair[0], pair[1]));
            due(call, -1, new WindowRing().price(pair[0], pair[1]));
            refused(call, ring -> ring.price(pair[0], pair[1]));
        }
    }

    private static void sliceItWas() {
        Rings.sentence("`int slice(int n)`: SLICE (1 .. 50;");
        WindowRing ring = Rings.of("slice 7;" + DOWN + "task f 9;");
        int was = 7;
        for (int n : new int[] {1, 50, 2, 49, 49, 8}) {
            due("what it was", was, ring.slice(n));
            due("about(9)", n, ring.about(9));
            was = n;
        }
        due("not told", 8, new WindowRing().slice(1));
    }

    private static void turnThatGoesOn() {
        Rings.sentence("the turn that goes on ends by it, too, but not ahead of its next EVENT): what it was");
        // five EVENTS of the turn so far: how many it has in all by the new SLICE
        int[][] rows = {{1, 6}, {2, 6}, {4, 6}, {5, 6}, {6, 6}, {7, 7}, {8, 8}, {9, 9}, {12, 12}};
        for (int[] row : rows) {
            WindowRing ring = Rings.of("windows 12; slice 10;" + DOWN + "task f 9; task f 9;");
            ring.run(5);
            due("slice(" + row[0] + ")", 10, ring.slice(row[0]));
            for (int i = 5; i < row[1]; i++) {
                due("its turn still", 0, ring.about(7));
                due("EVENTS of this turn", i, ring.about(8));
                ring.run(1);
            }
            due("the next one's by " + row[0], 1, ring.about(7));
            due("none of it", 0, ring.about(8));
            due("EVENTS of TASK 0", row[1], ring.task(0, 4));
            for (int i = 1; i < row[0]; i++) {
                ring.run(1);
                due("a whole turn", 1, ring.about(7));
            }
            ring.run(1);
            due("by the new SLICE", 0, ring.about(7));
        }
        // between two turns: the next one is by it
        WindowRing ring = Rings.of("windows 12; slice 4;" + DOWN + "task f 9; task f 9;");
        ring.run(4);
        ring.slice(1);
        ring.run(1);
        due("one EVENT of TASK 1", 0, ring.about(7));
        ring.run(1);
        due("one EVENT of TASK 0", 1, ring.about(7));
    }

    private static void slicesThatCannotBe() {
        Rings.sentence("what it was; NONE, doing nothing, if it can't be.");
        for (int n : new int[] {0, 51, -1, -50, 100, Integer.MIN_VALUE, Integer.MAX_VALUE}) {
            due("slice(" + n + ")", -1, Twins.amid().slice(n));
            due("slice(" + n + ")", -1, new WindowRing().slice(n));
            refused("slice(" + n + ")", ring -> ring.slice(n));
        }
    }

    private static void overTasksAgain() {
        Rings.sentence("A TASK that is over is as ahead of its begin again (all of task() as at first;");
        WindowRing ring = Rings.of("windows 3; slice 2; handler counter; def w n = w(n); " + DOWN + "task f 6; task w 1; task f 9;");
        ring.run(500);
        int[] conditions = {2, 3, 2};
        for (int task = 0; task < 3; task++) {
            due("how it is", conditions[task], ring.task(task, 1));
            due("it was SPILLED", true, ring.task(task, 10) > 0);
            due("again(" + task + ")", true, ring.again(task));
            int[] first = {task == 1 ? 0 : 1, 0, 0, 0, 0, 0, 1, 0, 0, 0, 0, 0};
            for (int what = 0; what < first.length; what++) {
                due("task(" + task + ", " + what + ")", first[what], ring.task(task, what));
            }
            due("result", 0, ring.result(task));
            due("where", -1, ring.where(task, 1));
            due("value", 0, ring.value(task, 1, 0));
        }
        due("and goes as before", 14 + 61 + 20, ring.run(500));
        due("result", 7, ring.result(0));
        due("FAILED", 3, ring.task(1, 1));
        due("EVENTS", 20, ring.task(2, 4));
        // GUESS, too
        ring = Rings.of("windows 3; handler double 4;" + DOWN + "task f 6;");
        ring.run(500);
        due("GUESS", true, ring.task(0, 7) < 0);
        ring.again(0);
        due("GUESS", 0, ring.task(0, 7));
    }

    private static void turnIfAllWereOver() {
        Rings.sentence("it is its turn, if all were over, else all else stays): true");
        for (int task = 0; task < 4; task++) {
            WindowRing ring = Rings.of(DOWN + "task f 0; task f 1; task f 2; task f 0;");
            ring.run(500);
            due("all over", -1, ring.about(7));
            due("again", true, ring.again(task));
            due("its turn", task, ring.about(7));
            due("none of it", 0, ring.about(8));
            due("all else stays", 14, ring.about(3));
            int next = (task + 2) % 4;
            due("another one", true, ring.again(next));
            due("its turn still", task, ring.about(7));
            ring.run(1);
            due("it begins", 1, ring.task(task, 1));
            due("the other does not", 0, ring.task(next, 1));
            due("EVENTS of this turn", 1, ring.about(8));
        }
    }

    private static void allElseStays() {
        Rings.sentence("else all else stays)");
        WindowRing ring = Rings.of("windows 3; slice 3;" + DOWN + "task f 9; task f 0; task f 8;");
        ring.run(3 + 2 + 3 + 2);
        due("TASK 1 is DONE", 2, ring.task(1, 1));
        int[] before = abouts(ring);
        int spilled = ring.task(0, 10);
        due("again(1)", true, ring.again(1));
        int[] behind = abouts(ring);
        for (int what = 0; what < before.length; what++) {
            due("about(" + what + ")", before[what] + (what == 14 ? 1 : 0), behind[what]);
        }
        due("SPILLED", spilled, ring.task(0, 10));
        due("TASK 0's turn", 0, ring.about(7));
        due("EVENTS of it", 2, ring.about(8));
        ring.run(1);
        due("TASK 1's turn", 1, ring.about(7));
        ring.run(2);
        due("result", 7, ring.result(1));
        due("EVENTS of it", 2, ring.task(1, 4));
    }

    private static int[] abouts(WindowRing ring) {
        int[] abouts = new int[18];
        for (int what = 0; what < abouts.length; what++) {
            abouts[what] = ring.about(what);
        }
        return abouts;
    }

    private static void againRefused() {
        Rings.sentence("false, and nothing happens, if it is not, or there is none such.");
        WindowRing ring = Rings.of("slice 1;" + DOWN + "task f 1; task f 0;");
        due("not begun", false, ring.again(0));
        ring.run(1);
        due("under way", false, ring.again(0));
        due("not begun", false, ring.again(1));
        ring.run(500);
        due("DONE", true, ring.again(0));
        due("not begun again", false, ring.again(0));
        // amid: z is DONE, w FAILED, two are under way
        for (int task : new int[] {2, 3, 4, 5, -1, -4, Integer.MIN_VALUE, Integer.MAX_VALUE}) {
            due("again(" + task + ")", false, Twins.amid().again(task));
            due("again(" + task + ")", false, Twins.over().again(task));
            refused("again(" + task + ")", twin -> twin.again(task));
        }
        due("DONE", true, Twins.amid().again(0));
        due("FAILED", true, Twins.amid().again(1));
        Supplier<WindowRing> notBegun = () -> Rings.of(DOWN + "task f 1; task f 0;");
        Twins.unchanged("again(0)", notBegun, twin -> twin.again(0));
        Twins.unchanged("again(1)", notBegun, twin -> twin.again(1));
    }

    private static void whatIsAnAct() {
        Rings.sentence("ACTS are run(), handler(), price(), slice() (to what there is already, too), again(), where they are not refused");
        List<Consumer<WindowRing>> acts = acts();
        for (int i = 0; i < acts.size(); i++) {
            WindowRing ring = Twins.amid();
            acts.get(i).accept(ring);
            due("ACTS behind number " + i, 7, ring.about(14));
            due("to be done again behind number " + i, 0, ring.about(15));
        }
    }

    /** ACTS that amid() takes: such as change something, and such as put what there is already. */
    private static List<Consumer<WindowRing>> acts() {
        return List.of(ring -> ring.run(1), ring -> ring.run(500), ring -> ring.handler(0, 0), ring -> ring.handler(1, 8),
            ring -> ring.handler(3, 4), ring -> ring.price(99, 0), ring -> ring.price(3, 9), ring -> ring.slice(50),
            ring -> ring.slice(4), ring -> ring.again(0), ring -> ring.again(1));
    }

    private static void whatIsNone() {
        Rings.sentence("where they are not refused");
        List<Consumer<WindowRing>> asked = List.of(ring -> ring.run(0), ring -> ring.run(501), ring -> ring.handler(1, 9),
            ring -> ring.price(100, 0), ring -> ring.slice(0), ring -> ring.again(2), ring -> ring.again(4), WindowRing::law,
            ring -> ring.plain(0, 1, 1, 1, 1), ring -> ring.profile(2, 9, 0, 0, 0, 0), ring -> ring.depths(2, 3),
            ring -> ring.alone(2, 1, 3, 0), ring -> ring.least(2, 4), ring -> ring.suits(2), ring -> ring.would(3, 9, 0),
            ring -> ring.best(0), ring -> ring.best(1), ring -> ring.bestSlice(0), ring -> ring.bestSlice(1),
            ring -> ring.trap(0, 0), ring -> ring.task(0, 0), ring -> ring.result(0), ring -> ring.window(0, 0),
            ring -> ring.register(0, 0), ring -> ring.value(2, 1, 0), ring -> ring.where(2, 1), ring -> ring.about(3),
            ring -> ring.fault(0));
        for (int i = 0; i < asked.size(); i++) {
            Twins.unchanged("number " + i, Twins::amid, asked.get(i));
        }
        WindowRing ring = Twins.amid();
        ring.image(0);
        due("image() is none", 6, ring.about(14));
        due("REDO stays", 2, ring.about(15));
        ring.feed(0, 0, 0, 0, 0);
        ring.end(3);
        due("feed() and end() are none", 6, ring.about(14));
        due("REDO stays", 2, ring.about(15));
    }

    private static void takesBackTheLatest() {
        Rings.sentence("UNDO takes back the latest ACT that was not");
        List<Consumer<WindowRing>> acts = acts();
        for (int i = 0; i < acts.size(); i++) {
            int number = i;
            Twins.alikeNow("taken back, number " + i, Twins::amid, () -> {
                WindowRing ring = Twins.amid();
                acts.get(number).accept(ring);
                due("undo", true, ring.undo());
                return ring;
            });
            WindowRing ring = Twins.amid();
            acts.get(number).accept(ring);
            ring.undo();
            due("ACTS", 6, ring.about(14));
            due("to be done again", 1, ring.about(15));
        }
        // one by one, the latest first
        WindowRing ring = Rings.of(DOWN + "task f 9;");
        ring.slice(3);
        ring.run(2);
        ring.slice(4);
        ring.run(3);
        int[] events = {2, 2, 0, 0};
        int[] slices = {4, 3, 3, 8};
        for (int i = 0; i < 4; i++) {
            due("undo", true, ring.undo());
            due("EVENTS", events[i], ring.about(3));
            due("SLICE", slices[i], ring.about(9));
        }
        due("undo", false, ring.undo());
    }

    private static void doesAgainTheLast() {
        Rings.sentence("REDO does that again which was taken back last");
        List<Consumer<WindowRing>> acts = acts();
        for (int i = 0; i < acts.size(); i++) {
            int number = i;
            Twins.alike("done again, number " + i, () -> {
                WindowRing ring = Twins.amid();
                acts.get(number).accept(ring);
                return ring;
            }, () -> {
                WindowRing ring = Twins.amid();
                acts.get(number).accept(ring);
                ring.undo();
                ring.undo();
                due("redo", true, ring.redo());
                due("redo", true, ring.redo());
                return ring;
            });
        }
        WindowRing ring = Rings.of(DOWN + "task f 9;");
        ring.slice(3);
        ring.run(2);
        ring.slice(4);
        ring.undo();
        ring.undo();
        ring.undo();
        int[] events = {0, 2, 2};
        int[] slices = {3, 3, 4};
        for (int i = 0; i < 3; i++) {
            due("redo", true, ring.redo());
            due("EVENTS", events[i], ring.about(3));
            due("SLICE", slices[i], ring.about(9));
            due("to be taken back", i + 1, ring.about(14));
            due("to be done again", 2 - i, ring.about(15));
        }
        due("redo", false, ring.redo());
    }

    private static void tillAnotherAct() {
        Rings.sentence("(till another ACT)");
        List<Consumer<WindowRing>> acts = acts();
        for (int i = 0; i < acts.size(); i++) {
            WindowRing ring = Twins.amid();
            due("to be done again", 2, ring.about(15));
            acts.get(i).accept(ring);
            due("redo behind number " + i, false, ring.redo());
            due("undo", true, ring.undo());
            due("that one alone", 1, ring.about(15));
            due("redo", true, ring.redo());
            due("redo", false, ring.redo());
        }
    }

    private static void twelveAreKept() {
        Rings.sentence("12 at most are kept, the oldest go.");
        for (int acts = 11; acts <= 26; acts++) {
            WindowRing ring = Rings.of("windows 3;" + DOWN + "task f 30;");
            for (int i = 1; i <= acts; i++) {
                ring.run(1);
                due("kept", Math.min(i, 12), ring.about(14));
            }
            int kept = Math.min(acts, 12);
            for (int i = 1; i <= kept; i++) {
                due("undo", true, ring.undo());
                due("EVENTS", acts - i, ring.about(3));
                due("FRAMES", acts - i, ring.task(0, 2));
                due("the latest FRAME", acts == i ? -1 : (acts - i - 1) % 3, ring.where(0, acts - i));
            }
            due("the oldest went", false, ring.undo());
            due("EVENTS", acts - kept, ring.about(3));
            due("to be done again", kept, ring.about(15));
            for (int i = 1; i <= kept; i++) {
                due("redo", true, ring.redo());
                due("EVENTS", acts - kept + i, ring.about(3));
            }
            due("redo", false, ring.redo());
            due("kept", kept, ring.about(14));
        }
        // full, one taken back, another one done: twelve again
        WindowRing ring = Rings.of(DOWN + "task f 30;");
        for (int i = 1; i <= 12; i++) {
            ring.slice(i);
        }
        ring.undo();
        ring.slice(30);
        due("twelve", 12, ring.about(14));
        ring.slice(31);
        due("twelve still", 12, ring.about(14));
        for (int was : new int[] {30, 11, 10, 9, 8, 7, 6, 5, 4, 3, 2, 1}) {
            due("undo", true, ring.undo());
            due("SLICE", was, ring.about(9));
        }
        due("undo", false, ring.undo());
    }

    private static void noneLeft() {
        Rings.sentence("`boolean undo()`: UNDO: true; false if there is none.");
        due("new", false, new WindowRing().undo());
        due("told", false, Rings.of(DOWN + "task f 1;").undo());
        Supplier<WindowRing> back = () -> {
            WindowRing ring = Twins.amid();
            for (int i = 0; i < 6; i++) {
                due("undo", true, ring.undo());
            }
            return ring;
        };
        due("none left", false, back.get().undo());
        due("all can be done again", 8, back.get().about(15));
        Twins.unchanged("undo() of none", back, WindowRing::undo);
        Twins.unchanged("undo() of none", Twins::fresh, WindowRing::undo);
        Rings.sentence("`boolean redo()`: REDO: true; false if there is none.");
        due("new", false, new WindowRing().redo());
        due("told", false, Rings.of(DOWN + "task f 1;").redo());
        Supplier<WindowRing> on = () -> {
            WindowRing ring = Twins.amid();
            due("redo", true, ring.redo());
            due("redo", true, ring.redo());
            return ring;
        };
        due("none left", false, on.get().redo());
        due("all can be taken back", 8, on.get().about(14));
        Twins.unchanged("redo() of none", on, WindowRing::redo);
        Twins.unchanged("redo() of none", Twins::fresh, WindowRing::redo);
        // an UNDO that can't be leaves REDO, and the other way round
        WindowRing ring = Twins.over();
        due("undo", true, ring.undo());
        due("undo", false, ring.undo());
        due("redo", true, ring.redo());
        due("redo", true, ring.redo());
        due("redo", false, ring.redo());
        due("undo", true, ring.undo());
    }
}
