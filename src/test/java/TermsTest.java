/** The Terms where they name no boundary: the grammar, line by line, and how FRAMES lie in WINDOWS and STACKS. */
public final class TermsTest {
    /** n + 1 FRAMES, 2 n + 2 EVENTS; FRAME 1 has n, each further one 1 less. */
    private static final String DOWN = "def f n = if n > 0 then f(n - 1) else 7; ";
    private static final String[] HANDLERS = {"single", "fixed 2", "fixed 8", "counter", "double 16"};

    private TermsTest() {
    }

    public static void main(String[] args) {
        lines();
        linesCutOff();
        linesWithoutAToken();
        ways();
        ifs();
        sumsAndTerms();
        units();
        windowOrStack();
        oneBehindAnother();
        freeByAReturn();
        itsWindow();
        countersAndGuesses();
        Rings.finish("TermsTest");
    }

    private static void due(String what, long want, long got) {
        Rings.due(what, want, got);
    }

    private static void lines() {
        Rings.sentence("{line}. line = windows N ; | handler way ; | slice N ; | price N N ; | def NAME {NAME} = e ; "
            + "| task NAME {n} ;. n = [-] N.");
        // none, one of each, all of them in one order and in another
        Rings.good(0, "");
        due("windows", 5, Rings.good(0, "windows 5;").about(0));
        due("handler", 2, Rings.good(0, "handler counter;").about(10));
        due("slice", 9, Rings.good(0, "slice 9;").about(9));
        Rings.good(0, "price 3 4;");
        due("def", 1, Rings.good(0, "def f = 1;").about(1));
        due("def", 2, Rings.good(0, "def f a b c d = 1; def g a = a;").about(1));
        all("windows 3; handler fixed 2; slice 4; price 5 6; " + DOWN + "def z = 1; task f 3; task z;");
        all(DOWN + "task f 3; slice 4; def z = 1; task z; price 5 6; handler fixed 2; windows 3;");
        all("price 5 6;windows 3;" + DOWN + "slice 4;task f 3;handler fixed 2;def z=1;task z;");
        WindowRing ring = Rings.good(2, "def f a b c d = a; task f 1 -2 3 - 4; task f -0 0 9999 -9999;");
        int[] first = {1, -2, 3, -4};
        int[] second = {0, 0, 9999, -9999};
        ring.slice(1);
        ring.run(2);
        for (int i = 0; i < 4; i++) {
            due("n", first[i], ring.value(0, 1, i));
            due("n", second[i], ring.value(1, 1, i));
        }
    }

    /** The same STORE, in whatever order its lines are told: three FRAMES lie in the ring when the fourth one comes. */
    private static void all(String text) {
        WindowRing ring = Rings.good(2, text);
        int[][] abouts = {{0, 3}, {1, 2}, {2, 2}, {9, 4}, {10, 1}, {11, 2}};
        for (int[] about : abouts) {
            due("about(" + about[0] + ") of " + text, about[1], ring.about(about[0]));
        }
        ring.run(4);
        due("COST of " + text, 5 + 2 * 6, ring.about(6));
        ring.run(500);
        due("result(0) of " + text, 7, ring.result(0));
        due("result(1) of " + text, 1, ring.result(1));
    }

    private static void linesCutOff() {
        // a NAME and its ( are one piece here: without it the NAME would be a PARAMETER's, and another FAULT
        String[] tokens = ("windows 3 ; handler fixed 2 ; slice 4 ; price 5 6 ; def f a b = if a < b then f( a , - 1 ) "
            + "else ( a * b / 2 % 3 + b - 1 ) ; task f 1 - 2 ; def z = z( ) ; task z ;").split(" ");
        StringBuilder text = new StringBuilder();
        int tasks = 0;
        boolean taskLine = false;
        for (String token : tokens) {
            text.append(token).append(' ');
            taskLine |= token.equals("task");
            if (token.equals(";")) {
                tasks += taskLine ? 1 : 0;
                taskLine = false;
                Rings.good(tasks, text.toString());
            } else {
                // the end can't stand there, whatever else is still to come
                Rings.fault(1, text + "|");
            }
        }
    }

    private static void linesWithoutAToken() {
        String[] marked = {"|3;", "windows |;", "windows 3 |slice 4;", "handler |;", "handler fixed |;", "handler |2;",
            "handler single |task", "slice |;", "price |;", "price 5 |;", "price 5 6 |7;", "|f = 1;", "def |= 1;", "def f |1;",
            "def f = |;", "def f = 1 |def g = 1;", "def f = 1; |f;", "def f = 1; task |;", "def f = 1; task f |task f;",
            "def f = 1; task f;|;", "def f a = 1; task f - |;"};
        for (String text : marked) {
            Rings.fault(1, text);
        }
    }

    private static void ways() {
        Rings.sentence("way = single | fixed N | counter | double N.");
        int[][] due = {{0, 0}, {1, 2}, {1, 8}, {2, 0}, {3, 16}};
        for (int i = 0; i < HANDLERS.length; i++) {
            WindowRing ring = Rings.good(0, "handler " + HANDLERS[i] + ";");
            due("the HANDLER " + HANDLERS[i], due[i][0], ring.about(10));
            due("its n of " + HANDLERS[i], due[i][1], ring.about(11));
        }
        Rings.fault(1, "handler |triple 2;");
        Rings.fault(1, "handler single |2;");
        Rings.fault(1, "handler counter |2;");
        Rings.fault(1, "handler fixed 2 |3;");
        Rings.fault(1, "handler fixed |- 2;");
        Rings.fault(1, "handler single |counter;");
    }

    /** What a formula gives for a 7 and b -2; k joins two digits, z is 5. */
    private static void gives(int value, String formula) {
        WindowRing ring = Rings.good(1, "def k x y = x * 10 + y; def z = 5; def m a b = " + formula + "; task m 7 -2;");
        ring.run(500);
        due(formula, value, ring.result(0));
        due(formula + ", plainly", value, ring.plain(2, 7, -2, 0, 0));
    }

    private static void ifs() {
        Rings.sentence("e = if sum (\u2039 | \u203a | =) sum then e else e | sum.");
        gives(1, "if b < a then 1 else 2");
        gives(2, "if a < b then 1 else 2");
        gives(2, "if a < a then 1 else 2");
        gives(1, "if a > b then 1 else 2");
        gives(2, "if b > a then 1 else 2");
        gives(2, "if a > a then 1 else 2");
        gives(1, "if a = a then 1 else 2");
        gives(2, "if a = b then 1 else 2");
        // sums on both sides, whole e behind then and else
        gives(1, "if a + b * 2 = 1 + 2 then 1 else 2");
        gives(5, "if 1 = 1 then 2 + 3 else 4");
        gives(9, "if 1 = 2 then 2 + 3 else 4 + 5");
        gives(3, "if 1 = 1 then if 1 = 2 then 2 else 3 else 4");
        gives(4, "if 1 = 2 then if 1 = 2 then 2 else 3 else 4");
        gives(4, "if 1 = 2 then 2 else if 1 = 2 then 3 else 4");
        gives(14, "if 1 = 2 then 2 else if 1 = 2 then 3 else 4 + 10");
        gives(3, "if (if a = 7 then 1 else 2) = 1 then 3 else 4");
        gives(73, "k(if a = 7 then a else b, if a = b then 2 else 3)");
    }

    private static void sumsAndTerms() {
        Rings.sentence("sum = term {(+ | -) term}. term = unit {(* | / | %) unit}.");
        gives(10 - 3 - 4, "10 - 3 - 4");
        gives(10 - 3 + 4, "10 - 3 + 4");
        gives(2 + 3 * 4, "2 + 3 * 4");
        gives(2 * 3 + 4, "2 * 3 + 4");
        gives(2 * 3 - 4 * 5 + 6, "2 * 3 - 4 * 5 + 6");
        gives(100 / 7 / 3, "100 / 7 / 3");
        gives(100 / 7 * 7, "100 / 7 * 7");
        gives(7 * 100 / 7, "7 * 100 / 7");
        gives(100 % 7 * 3, "100 % 7 * 3");
        gives(3 * 100 % 7, "3 * 100 % 7");
        gives(100 % 30 % 7, "100 % 30 % 7");
        gives(100 / 7 % 5, "100 / 7 % 5");
        gives(100 % 7 / 2, "100 % 7 / 2");
        gives(1 - 100 % 7 - 1, "1 - 100 % 7 - 1");
    }

    private static void units() {
        Rings.sentence("unit = N | NAME | NAME ( e {, e} ) | ( e ) | - unit.");
        gives(42, "42");
        gives(42, "00042");
        gives(7, "a");
        gives(-2, "b");
        gives(5, "z()");
        gives(5, "z ( )");
        gives(12, "k(1, 2)");
        gives(68, "k(a, b)");
        gives(123, "k(k(1, 2), 3)");
        gives(33, "k(1, k(2, 3))");
        gives(57, "k(z(), 2 + z())");
        gives(9, "(9)");
        gives(9, "(((9)))");
        gives((2 + 3) * 4, "(2 + 3) * 4");
        gives(4 - (3 - 2), "4 - (3 - 2)");
        gives(12, "(if a = 7 then 2 else 3) + 10");
        // a - binds its unit alone
        gives(-9, "-9");
        gives(9, "--9");
        gives(2, "-b");
        gives(-3 + 2, "-3 + 2");
        gives(-7 / 2, "-a / 2");
        gives(-7 % 4, "-a % 4");
        gives(7 / -2, "a / b");
        gives(6 * -2, "6 * -2");
        gives(6 - -2, "6 - -2");
        gives(6 + 2, "6 - - - - 2");
        gives(-5, "-(2 + 3)");
        gives(-12, "-k(1, 2)");
        gives(-5, "-z()");
    }

    /** A ring of so many WINDOWS, three TASKS by turns of three. */
    private static WindowRing mixed(int windows, String handler) {
        return Rings.of("windows " + windows + "; slice 3; handler " + handler + ";" + DOWN
            + "task f 14; task f 5; task f 9;");
    }

    private static void windowOrStack() {
        Rings.sentence("lie in a WINDOW, if it is RESIDENT, else in the TASK's STACK.");
        int[] given = {14, 5, 9};
        for (String handler : HANDLERS) {
            for (int steps : new int[] {4, 10, 17, 23, 29, 36, 44, 51, 61}) {
                WindowRing ring = mixed(4, handler);
                due("EVENTS", steps, ring.run(steps));
                for (int task = 0; task < given.length; task++) {
                    int stacked = 0;
                    for (int frame = 1; frame <= ring.task(task, 2); frame++) {
                        due("its n", given[task] + 1 - frame, ring.value(task, frame, 0));
                        int window = ring.where(task, frame);
                        stacked += window == -2 ? 1 : 0;
                        if (window != -2) {
                            due("in its WINDOW", given[task] + 1 - frame, ring.register(window, 0));
                            due("its TASK", task, ring.window(window, 0));
                            due("its FRAME", frame, ring.window(window, 1));
                        }
                    }
                    due("in its STACK", ring.task(task, 2) - ring.task(task, 3), stacked);
                    due("moved there and not back", stacked, ring.task(task, 10) - ring.task(task, 11));
                }
            }
        }
    }

    private static void oneBehindAnother() {
        Rings.sentence("WINDOWS (as many as told) lie in a ring; FRAMES of a TASK that are RESIDENT lie one behind another there; "
            + "a WINDOW is FREE or a FRAME's.");
        for (int windows = 2; windows <= 12; windows++) {
            for (String handler : HANDLERS) {
                WindowRing ring = mixed(windows, handler);
                for (int turn = 0; turn < 8; turn++) {
                    ring.run(8);
                    lie(ring, windows);
                }
            }
        }
    }

    private static void lie(WindowRing ring, int windows) {
        int free = 0;
        for (int window = 0; window < windows; window++) {
            int task = ring.window(window, 0);
            int frame = ring.window(window, 1);
            free += task == -1 ? 1 : 0;
            due("FREE of both", task == -1 ? 1 : 0, frame == -1 ? 1 : 0);
            if (task != -1 && frame < ring.task(task, 2)) {
                int next = window + 1 < windows ? window + 1 : 0;
                due("the next one's TASK", task, ring.window(next, 0));
                due("the next one", frame + 1, ring.window(next, 1));
            }
        }
        due("no WINDOW more", -2, ring.window(windows, 0));
        due("FREE WINDOWS", free, ring.about(13));
        due("a FRAME's each", windows - free, ring.task(0, 3) + ring.task(1, 3) + ring.task(2, 3));
    }

    private static void freeByAReturn() {
        Rings.sentence("A RETURN: its WINDOW is FREE; if the caller is not RESIDENT there is an UNDERFLOW");
        for (int windows = 2; windows <= 12; windows++) {
            WindowRing ring = Rings.of("windows " + windows + ";" + DOWN + "task f 12;");
            ring.run(13);
            int traps = ring.about(4);
            for (int left = windows - 1; left >= 1; left--) {
                int window = ring.where(0, ring.task(0, 2));
                ring.run(1);
                due("FREE", -1, ring.window(window, 0));
                due("its FRAME", -1, ring.window(window, 1));
                due("no number there", 0, ring.register(window, 0));
                due("FREE in all", windows - left, ring.about(13));
                due("the caller is RESIDENT: no TRAP", traps, ring.about(4));
            }
            ring.run(1);
            due("the caller is not", traps + 1, ring.about(4));
        }
    }

    private static void itsWindow() {
        Rings.sentence("At its begin, and when its turn comes and none of its FRAMES is RESIDENT");
        // a TASK some of whose FRAMES are RESIDENT goes on where they are, wherever the others went on to
        WindowRing ring = Rings.of("windows 12; slice 2;" + DOWN + "task f 3; task f 3; task f 3;");
        ring.run(6);
        Rings.windows(ring, 0, 1, 0, 2, 1, 1, 1, 2, 2, 1, 2, 2, -1, -1, -1, -1, -1, -1, -1, -1, -1, -1, -1, -1);
        due("used", 5, ring.about(12));
        ring.run(1);
        Rings.windows(ring, 0, 1, 0, 2, 0, 3, 1, 2, 2, 1, 2, 2, -1, -1, -1, -1, -1, -1, -1, -1, -1, -1, -1, -1);
        due("used", 2, ring.about(12));
        ring.run(1);
        Rings.windows(ring, 0, 1, 0, 2, 0, 3, 0, 4, 2, 1, 2, 2, -1, -1, -1, -1, -1, -1, -1, -1, -1, -1, -1, -1);
        due("none of it is RESIDENT", 0, ring.task(1, 3));
        // TASK 1 comes behind WINDOW 3, where TASK 2's eldest is, and its CALL finds the other one
        ring.run(1);
        Rings.windows(ring, 0, 1, 0, 2, 0, 3, 0, 4, 1, 2, 1, 3, -1, -1, -1, -1, -1, -1, -1, -1, -1, -1, -1, -1);
        due("used", 5, ring.about(12));
        Rings.trap(ring, 0, 0, 1, 1, 2, 8);
        Rings.trap(ring, 1, 2, 1, 1, 1, 8);
        Rings.trap(ring, 2, 0, 1, 1, 2, 8);
        due("TRAPS", 5, ring.about(4));
    }

    private static void countersAndGuesses() {
        Rings.sentence("6: COUNTER, 7: GUESS");
        for (String handler : HANDLERS) {
            WindowRing ring = mixed(4, handler);
            each(ring, 1, 0, 1, 0);
        }
        Rings.sentence("counter: each TASK has a COUNTER (1 at first)");
        // TASK 0 calls where TASK 1 lies, and where it lies itself; TASK 1 has none of it
        WindowRing ring = Rings.of("windows 4; slice 2; handler counter;" + DOWN + "task f 9; task f 9;");
        ring.run(4);
        each(ring, 1, 0, 1, 0);
        ring.run(1);
        each(ring, 2, 0, 1, 0);
        Rings.sentence("double N: each TASK has a GUESS (0 at first)");
        ring = Rings.of("windows 4; slice 2; handler double 4;" + DOWN + "task f 9; task f 9;");
        ring.run(4);
        each(ring, 1, 0, 1, 0);
        ring.run(1);
        each(ring, 1, 1, 1, 0);
        ring.run(1);
        each(ring, 1, 2, 1, 0);
    }

    private static void each(WindowRing ring, int counter0, int guess0, int counter1, int guess1) {
        due("task(0, 6)", counter0, ring.task(0, 6));
        due("task(0, 7)", guess0, ring.task(0, 7));
        due("task(1, 6)", counter1, ring.task(1, 6));
        due("task(1, 7)", guess1, ring.task(1, 7));
    }
}
