import java.util.List;
import java.util.function.Supplier;

/** Promises 25 to 27, sentence by sentence: other HANDLERS and SLICES tried, beside objects that are run so. */
public final class TrialEdgesTest {
    private static final String DOWN = "def f n = if n > 0 then f(n - 1) else 7; ";
    private static final String TWICE = "def b n = if n < 2 then n else b(n - 1) + b(n - 2); ";
    /** Of 511, 127, 63, 31, 15 g takes 2,046, 510, 254, 126, 62 EVENTS, so h takes 954, and both 3,000. */
    private static final String HALVES = "def g n = if n > 0 then g(n / 2) + g(n / 2) else 7;"
        + "def h = g(127) + g(63) + g(31) + g(15); def z = 1; ";
    private static final int[][] TRIED = {{0, 0}, {1, 2}, {1, 4}, {2, 0}, {3, 8}};
    private static final int[] FAR = {Integer.MIN_VALUE, -1000, -2, -1, 17, 1000, Integer.MAX_VALUE};

    private TrialEdgesTest() {
    }

    public static void main(String[] args) {
        fromNowOn();
        threeThousandEvents();
        asByHandler();
        allOverAlready();
        wouldOfNoneSuch();
        nothingIsDone();
        bestOfFive();
        ofLikeOnesTheFirst();
        bestForAnotherWhat();
        bestSliceOfFifty();
        ofLikeOnesTheLeast();
        bestSliceForAnotherWhat();
        bestOfThreeThousand();
        Rings.finish("TrialEdgesTest");
    }

    private static void due(String what, long want, long got) {
        Rings.due(what, want, got);
    }

    /** States that are tried: at the beginning, amid a turn, behind guesses, with more than 3,000 EVENTS to come. */
    private static List<Supplier<WindowRing>> states() {
        return List.of(
            () -> Rings.of("windows 4; slice 3;" + DOWN + "task f 7; task f 5;"),
            () -> run(Rings.of("windows 3; slice 5; handler counter; price 4 9;" + DOWN + "task f 9; task f 8; task f 2;"), 13),
            () -> run(Rings.of("windows 5; slice 4; handler double 8; price 20 1;" + TWICE + "task b 7; task b 8;"), 77),
            () -> run(Rings.of("windows 2; slice 7; handler fixed 3; def w = w(); " + TWICE + "task w; task b 9;"), 100),
            () -> run(Rings.of("windows 6; slice 9; handler counter;" + TWICE + DOWN + "task b 15; task f 40; task b 14;"), 50),
            () -> run(Rings.of("windows 4; handler counter;" + DOWN + "task f 20;"), 21),
            Twins::amid);
    }

    private static WindowRing run(WindowRing ring, int events) {
        ring.run(events);
        return ring;
    }

    private static WindowRing runFar(WindowRing ring) {
        for (int i = 0; i < 6; i++) {
            ring.run(500);
        }
        return ring;
    }

    private static void fromNowOn() {
        Rings.sentence("From now on until all TASKS are over (3,000 EVENTS at most) by a HANDLER (way, n; as by handler()) what 0: COST that comes, 1: TRAPS, 2: MOVES, 3: EVENTS.");
        int[][] ways = {{0, 0}, {1, 1}, {1, 8}, {2, 0}, {3, 1}, {3, 16}, {1, 3}, {3, 5}};
        for (Supplier<WindowRing> state : states()) {
            WindowRing ring = state.get();
            int[] before = {ring.about(6), ring.about(4), ring.about(5), ring.about(3)};
            for (int[] way : ways) {
                WindowRing other = state.get();
                other.handler(way[0], way[1]);
                runFar(other);
                int[] behind = {other.about(6), other.about(4), other.about(5), other.about(3)};
                for (int what = 0; what < 4; what++) {
                    due("would(" + way[0] + ", " + way[1] + ", " + what + ")", behind[what] - before[what],
                        ring.would(way[0], way[1], what));
                }
            }
        }
    }

    private static void threeThousandEvents() {
        Rings.sentence("(3,000 EVENTS at most)");
        WindowRing ring = Rings.of("windows 3;" + HALVES + "task g 511; task h;");
        due("3,000", 3000, ring.would(0, 0, 3));
        WindowRing whole = runFar(Rings.of("windows 3;" + HALVES + "task g 511; task h;"));
        due("all over", -1, whole.about(7));
        due("COST of 3,000", whole.about(6), ring.would(0, 0, 0));
        ring.run(1);
        due("2,999", 2999, ring.would(0, 0, 3));
        ring = Rings.of("windows 3;" + HALVES + "task g 511; task h; task z;");
        due("of 3,002", 3000, ring.would(0, 0, 3));
        WindowRing part = runFar(Rings.of("windows 3;" + HALVES + "task g 511; task h; task z;"));
        due("not all over", true, part.about(7) != -1);
        due("COST of 3,000", part.about(6), ring.would(0, 0, 0));
        due("TRAPS of 3,000", part.about(4), ring.would(0, 0, 1));
        due("MOVES of 3,000", part.about(5), ring.would(0, 0, 2));
        ring.run(2);
        due("the other 3,000", 3000, ring.would(0, 0, 3));
        ring.run(1);
        due("2,999", 2999, ring.would(0, 0, 3));
        due("far more", 3000, Rings.of(TWICE + "task b 30; task b 30;").would(3, 8, 3));
        due("none", 0, Rings.of(TWICE).would(3, 8, 3));
    }

    private static void due(String what, boolean want, boolean got) {
        Rings.due(what, want, got);
    }

    private static void asByHandler() {
        Rings.sentence("(way, n; as by handler())");
        // behind four OVERFLOWS COUNTER is 3; from 1 on the UNDERFLOWS fill 3 and 4, from 3 on they fill 1, 2, 3
        WindowRing ring = run(Rings.of("windows 4; handler counter;" + DOWN + "task f 10;"), 11);
        due("COUNTER", 3, ring.task(0, 6));
        int stack = ring.task(0, 2) - ring.task(0, 3);
        due("in the STACK", 8, stack);
        due("TRAPS by COUNTER from 1", 3, ring.would(2, 0, 1));
        ring.handler(2, 0);
        due("by handler()", 3, ring.would(2, 0, 1));
        ring.undo();
        ring.run(500);
        due("without", 4, ring.task(0, 9));
        // GUESS, too: -1, -2, .. anew
        ring = run(Rings.of("windows 2; handler double 8;" + DOWN + "task f 20;"), 24);
        due("GUESS", -2, ring.task(0, 7));
        due("as by handler()", ring.would(3, 8, 1), handled(ring, 3, 8));
    }

    private static int handled(WindowRing ring, int way, int n) {
        int traps = ring.about(4);
        ring.handler(way, n);
        ring.run(500);
        return ring.about(4) - traps;
    }

    private static void allOverAlready() {
        Rings.sentence("From now on until all TASKS are over");
        for (Supplier<WindowRing> made : List.<Supplier<WindowRing>>of(Twins::over, WindowRing::new, () -> Rings.of(DOWN))) {
            WindowRing ring = made.get();
            for (int what = 0; what < 4; what++) {
                for (int way = 0; way < 4; way++) {
                    due("would(" + way + ", 8, " + what + ")", 0, ring.would(way, 8, what));
                }
            }
            due("best(0)", 0, ring.best(0));
            due("best(1)", 0, ring.best(1));
            due("bestSlice(0)", 1, ring.bestSlice(0));
            due("bestSlice(1)", 0, ring.bestSlice(1));
        }
    }

    private static void wouldOfNoneSuch() {
        Rings.sentence("NONE if it can't be, or for another what.");
        int[][] cannot = {{-1, 1}, {4, 1}, {1, 0}, {1, 9}, {3, 0}, {3, 17}, {1, -1}, {3, -1}};
        int[][] can = {{0, -1}, {0, 99}, {1, 1}, {1, 8}, {2, -1}, {2, 99}, {3, 1}, {3, 16}};
        WindowRing ring = Twins.amid();
        WindowRing over = Twins.over();
        for (int what = 0; what < 4; what++) {
            for (int[] pair : cannot) {
                due("would(" + pair[0] + ", " + pair[1] + ", " + what + ")", -1, ring.would(pair[0], pair[1], what));
                due("would(" + pair[0] + ", " + pair[1] + ", " + what + ")", -1, over.would(pair[0], pair[1], what));
            }
            for (int[] pair : can) {
                due("would(" + pair[0] + ", " + pair[1] + ", " + what + ")", true, ring.would(pair[0], pair[1], what) > 0);
            }
        }
        due("another what", -1, ring.would(0, 0, 4));
        due("another what", -1, ring.would(0, 0, -1));
        for (int far : FAR) {
            due("none such", -1, ring.would(far, 1, 0));
            due("none such", -1, ring.would(1, far, 0));
            due("none such", -1, ring.would(3, far, 0));
            due("another what", -1, ring.would(0, 0, far));
        }
    }

    private static void nothingIsDone() {
        Rings.sentence("(Nothing is done; so below.)");
        for (int way = 0; way < 4; way++) {
            int number = way;
            Twins.unchanged("would(" + way + ", 3, 0)", Twins::amid, ring -> ring.would(number, 3, 0));
        }
        Twins.unchanged("would(1, 9, 0)", Twins::amid, ring -> ring.would(1, 9, 0));
        for (int what = -1; what <= 2; what++) {
            int number = what;
            Twins.unchanged("best(" + what + ")", Twins::amid, ring -> ring.best(number));
            Twins.unchanged("bestSlice(" + what + ")", Twins::amid, ring -> ring.bestSlice(number));
        }
        Twins.unchanged("bestSlice(0)", Twins::over, ring -> ring.bestSlice(0));
        Twins.unchanged("best(0)", Twins::fresh, ring -> ring.best(0));
    }

    private static void bestOfFive() {
        Rings.sentence("The HANDLER by which COST so is least, of like ones the first (single, fixed 2, fixed 4, counter, double 8; what 0: 0 .. 4), that COST (1)");
        for (Supplier<WindowRing> state : states()) {
            best(state.get());
        }
        // each of the five is best somewhere
        int[] seen = new int[5];
        for (int windows = 3; windows <= 7; windows++) {
            for (int n = 5; n <= 25; n++) {
                for (int trap = 0; trap <= 30; trap += 6) {
                    WindowRing ring = Rings.of("windows " + windows + "; price " + trap + " 2;" + DOWN
                        + "def m n = if n > 0 then f(n) + m(n - 4) else f(n); task m " + n + ";");
                    seen[best(ring)]++;
                }
            }
        }
        for (int i = 0; i < 5; i++) {
            due("number " + i + " is best somewhere", true, seen[i] > 0);
        }
        // double 8 it is, neither 7 nor 9
        WindowRing ring = Rings.of("windows 9;" + DOWN + "def m n = if n > 0 then f(n) + m(n - 1) else f(n); task m 37;");
        due("number 4", 4, best(ring));
        due("dearer by 7", true, ring.would(3, 7, 0) > ring.best(1));
        due("dearer by 9", true, ring.would(3, 9, 0) > ring.best(1));
    }

    /** The last of 3,000 EVENTS counts, the one behind it does not: some of these are TRAPS. */
    private static void bestOfThreeThousand() {
        Rings.sentence("(Nothing is done; so below.)");
        for (int i = 1; i <= 12; i++) {
            int events = i;
            Supplier<WindowRing> state = () -> run(Rings.of("windows 3; slice 4; handler fixed 2;" + TWICE + "task b 20; task b 20;"), events);
            best(state.get());
            bestSlice(state);
        }
    }

    private static int best(WindowRing ring) {
        int best = 0;
        int cost = Integer.MAX_VALUE;
        for (int i = 0; i < TRIED.length; i++) {
            int tried = ring.would(TRIED[i][0], TRIED[i][1], 0);
            if (tried < cost) {
                best = i;
                cost = tried;
            }
        }
        due("best(0)", best, ring.best(0));
        due("best(1)", cost, ring.best(1));
        return best;
    }

    private static void ofLikeOnesTheFirst() {
        Rings.sentence("of like ones the first (single, fixed 2, fixed 4, counter, double 8");
        // single 88, fixed 2 48, fixed 4 52, counter 60, double 8 72; TRAPS 8, 4, 4, 5, 6; MOVES 8, 8, 12, 10, 12
        WindowRing ring = Rings.of("windows 4;" + DOWN + "task f 7;");
        due("fixed 2", 1, ring.best(0));
        due("48", 48, ring.best(1));
        ring.price(1, 0);
        due("fixed 2 and fixed 4 are alike", 1, ring.best(0));
        due("4", 4, ring.best(1));
        ring.price(0, 1);
        due("single and fixed 2 are alike", 0, ring.best(0));
        due("8", 8, ring.best(1));
        ring.price(0, 0);
        due("all are alike", 0, ring.best(0));
        due("0", 0, ring.best(1));
        // all alike by few FRAMES
        ring = Rings.of("windows 4;" + DOWN + "task f 3;");
        due("no TRAP", 0, ring.best(0));
        // from now on: four in the STACK; fixed 4 fills them by one TRAP
        ring = run(Rings.of("windows 4;" + DOWN + "task f 7;"), 8);
        due("fixed 4", 2, ring.best(0));
        due("COST that comes", 14, ring.best(1));
        due("COST so far", 44, ring.about(6));
    }

    private static void bestForAnotherWhat() {
        Rings.sentence("that COST (1); NONE for another what.");
        for (WindowRing ring : new WindowRing[] {new WindowRing(), Twins.amid(), Twins.over()}) {
            due("2", -1, ring.best(2));
            due("-1", -1, ring.best(-1));
            for (int far : FAR) {
                due("another what", -1, ring.best(far));
            }
        }
    }

    private static void bestSliceOfFifty() {
        Rings.sentence("The SLICE (1 .. 50) by which COST so is least with the HANDLER there is, of like ones the least (what 0), that COST (1)");
        int[] seen = new int[51];
        for (Supplier<WindowRing> state : states()) {
            seen[bestSlice(state)]++;
        }
        for (int n = 2; n <= 11; n++) {
            int number = n;
            seen[bestSlice(() -> Rings.of("windows 12;" + DOWN + "task f " + number + "; task f 11;"))]++;
            seen[bestSlice(() -> run(Rings.of("windows 12; slice 50;" + DOWN + "task f " + number + "; task f 11;"), 3))]++;
        }
        // 50 itself: two TASKS, each in the other one's way till the first has returned from its 25th FRAME
        seen[bestSlice(() -> Rings.of("windows 12; handler fixed 8;" + DOWN + "task f 24; task f 24;"))]++;
        int others = 0;
        for (int n = 2; n <= 50; n++) {
            others += seen[n] > 0 ? 1 : 0;
        }
        due("not always the same", true, others > 5);
        due("50 is tried", true, seen[50] > 0);
    }

    private static int bestSlice(Supplier<WindowRing> state) {
        WindowRing ring = state.get();
        int before = ring.about(6);
        int best = 0;
        int cost = Integer.MAX_VALUE;
        for (int n = 1; n <= 50; n++) {
            WindowRing other = state.get();
            other.slice(n);
            int tried = runFar(other).about(6) - before;
            if (tried < cost) {
                best = n;
                cost = tried;
            }
        }
        due("bestSlice(0)", best, ring.bestSlice(0));
        due("bestSlice(1)", cost, ring.bestSlice(1));
        return best;
    }

    private static void ofLikeOnesTheLeast() {
        Rings.sentence("of like ones the least (what 0)");
        // alone, all are alike
        WindowRing ring = Rings.of("windows 4; slice 9;" + DOWN + "task f 7;");
        due("alone", 1, ring.bestSlice(0));
        due("alone", 88, ring.bestSlice(1));
        // free of charge, too
        ring = Rings.of("windows 2; slice 9; price 0 0;" + DOWN + "task f 7; task f 8;");
        due("no COST", 1, ring.bestSlice(0));
        due("no COST", 0, ring.bestSlice(1));
        // by 4 TASK 0 has two FRAMES left when TASK 1 comes with two; from 5 on it has one: no TRAP
        ring = Rings.of("windows 3; slice 2;" + DOWN + "task f 2; task f 1;");
        due("from 5 on", 5, ring.bestSlice(0));
        due("from 5 on", 0, ring.bestSlice(1));
        due("SLICE stays", 2, ring.about(9));
        // the turn that goes on ends by it, too: behind the next EVENT at the earliest
        ring.run(1);
        due("still", 5, ring.bestSlice(0));
        ring.slice(9);
        ring.run(3);
        due("from 5 on, or by its next EVENT", 1, ring.bestSlice(0));
        due("no COST", 0, ring.bestSlice(1));
    }

    private static void bestSliceForAnotherWhat() {
        Rings.sentence("(what 0), that COST (1); NONE for another what.");
        for (WindowRing ring : new WindowRing[] {new WindowRing(), Twins.amid(), Twins.over()}) {
            due("2", -1, ring.bestSlice(2));
            due("-1", -1, ring.bestSlice(-1));
            for (int far : FAR) {
                due("another what", -1, ring.bestSlice(far));
            }
        }
    }
}
