/** Promises 13 to 18, sentence by sentence: what is answered of TASKS, WINDOWS and FRAMES, and where there is none. */
public final class LookEdgesTest {
    private static final String DOWN = "def f n = if n > 0 then f(n - 1) else 7; ";
    private static final int[] FAR = {Integer.MIN_VALUE, -1000, -2, -1, 12, 61, 1000, Integer.MAX_VALUE};

    private LookEdgesTest() {
    }

    public static void main(String[] args) {
        taskByTask();
        howItIs();
        mostFramesEver();
        trapsAskedForIt();
        taskOfNoneSuch();
        resultIfDone();
        windowsAndFrames();
        windowOfNoneSuch();
        whatLiesInAWindow();
        registerOfNoneSuch();
        whereverItLies();
        valueOfNoneSuch();
        whereAFrameIs();
        whereOfNoneSuch();
        Rings.finish("LookEdgesTest");
    }

    private static void due(String what, long want, long got) {
        Rings.due(what, want, got);
    }

    private static void task(WindowRing ring, int task, int... facts) {
        for (int what = 0; what < facts.length; what++) {
            due("task(" + task + ", " + what + ")", facts[what], ring.task(task, what));
        }
    }

    private static void taskByTask() {
        Rings.sentence("Of a TASK what 0: its FUNCTION, 1: how it is (0 not begun, 1 under way, 2 DONE, 3 FAILED), 2: FRAMES, 3: those that are RESIDENT, 4: EVENTS of it");
        WindowRing ring = Rings.of("def z = 1; windows 3; slice 4;" + DOWN + "task f 4; task z; task f 2;");
        task(ring, 0, 1, 0, 0, 0, 0, 0, 1, 0, 0, 0, 0, 0);
        task(ring, 1, 0, 0, 0, 0, 0, 0, 1, 0, 0, 0, 0, 0);
        task(ring, 2, 1, 0, 0, 0, 0, 0, 1, 0, 0, 0, 0, 0);
        // the fourth FRAME finds the first one in its WINDOW
        ring.run(4);
        task(ring, 0, 1, 1, 4, 3, 4, 4, 1, 0, 1, 0, 1, 0);
        task(ring, 1, 0, 0, 0, 0, 0, 0, 1, 0, 0, 0, 0, 0);
        // z begins in WINDOW 1, where the second one is
        ring.run(1);
        task(ring, 0, 1, 1, 4, 2, 4, 4, 1, 0, 1, 0, 2, 0);
        task(ring, 1, 0, 1, 1, 1, 1, 1, 1, 0, 1, 0, 0, 0);
        ring.run(1);
        task(ring, 1, 0, 2, 0, 0, 2, 1, 1, 0, 1, 0, 0, 0);
        // TASK 2 in WINDOW 2, where the third one is, then in 0, where the fourth one is
        ring.run(1);
        task(ring, 0, 1, 1, 4, 1, 4, 4, 1, 0, 1, 0, 3, 0);
        task(ring, 2, 1, 1, 1, 1, 1, 1, 1, 0, 1, 0, 0, 0);
        ring.run(1);
        task(ring, 0, 1, 1, 4, 0, 4, 4, 1, 0, 1, 0, 4, 0);
        task(ring, 2, 1, 1, 2, 2, 2, 2, 1, 0, 2, 0, 0, 0);
    }

    private static void howItIs() {
        Rings.sentence("1: how it is (0 not begun, 1 under way, 2 DONE, 3 FAILED)");
        WindowRing ring = Rings.of("slice 1; def w = w(); def z = 1; task w; task z; task z;");
        int[][] rows = {{0, 0, 0}, {1, 0, 0}, {1, 1, 0}, {1, 1, 1}, {1, 1, 1}, {1, 2, 1}, {1, 2, 2}};
        for (int[] row : rows) {
            for (int task = 0; task < 3; task++) {
                due("task(" + task + ", 1)", row[task], ring.task(task, 1));
            }
            ring.run(1);
        }
        ring.run(57);
        due("at its sixtieth", 1, ring.task(0, 1));
        ring.run(1);
        due("FAILED", 3, ring.task(0, 1));
    }

    private static void mostFramesEver() {
        Rings.sentence("5: the most FRAMES it ever had");
        WindowRing ring = Rings.of(DOWN + "def m = f(2) + f(4) + f(1); task m;");
        int[] most = {1, 2, 3, 4, 4, 4, 4, 4, 4, 4, 5, 6, 6, 6, 6, 6, 6, 6};
        for (int i = 0; i < most.length; i++) {
            ring.run(1);
            due("behind " + (i + 1), most[i], ring.task(0, 5));
        }
        ring.undo();
        ring.run(500);
        due("DONE", 6, ring.task(0, 5));
        ring = Rings.of("def w = w(); task w; task w;");
        ring.run(500);
        due("FAILED", 60, ring.task(0, 5));
        due("FAILED", 60, ring.task(1, 5));
    }

    private static void trapsAskedForIt() {
        Rings.sentence("8: OVERFLOWS, 9: UNDERFLOWS asked for it, or by its coming, 10: FRAMES of it that were SPILLED, 11: FILLED.");
        // two WINDOWS, two TASKS by turns of two: each spills the other one wholly, and comes
        WindowRing ring = Rings.of("windows 2; slice 2; handler fixed 2;" + DOWN + "task f 3; task f 1;");
        ring.run(4);
        // TASK 1 began where TASK 0 lay: both of it went
        int[][] rows = {{0, 0, 2, 0}, {1, 0, 0, 0}};
        facts(ring, rows);
        ring.run(1);
        // TASK 0 came: TASK 1's two went, its own second was FILLED; then it called
        rows = new int[][] {{1, 1, 2, 1}, {1, 0, 2, 0}};
        facts(ring, rows);
        ring.run(1);
        // and called again, where its second was
        rows = new int[][] {{2, 1, 3, 1}, {1, 0, 2, 0}};
        facts(ring, rows);
        ring.run(1);
        // TASK 1 came: TASK 0's two went; it returned, its first was FILLED
        rows = new int[][] {{2, 1, 5, 1}, {2, 2, 2, 2}};
        facts(ring, rows);
        due("TRAPS", 2 + 1 + 2 + 2, ring.about(4));
    }

    private static void facts(WindowRing ring, int[][] rows) {
        for (int task = 0; task < rows.length; task++) {
            for (int i = 0; i < 4; i++) {
                due("task(" + task + ", " + (8 + i) + ")", rows[task][i], ring.task(task, 8 + i));
            }
        }
    }

    private static void taskOfNoneSuch() {
        Rings.sentence("-100 if there is none such, or for another what.");
        for (int tasks = 0; tasks <= 4; tasks++) {
            WindowRing ring = Rings.of(DOWN + "task f 3;".repeat(tasks));
            ring.run(3);
            for (int what = 0; what <= 11; what++) {
                if (tasks > 0) {
                    due("the last", true, ring.task(tasks - 1, what) != -100);
                }
                due("none such", -100, ring.task(tasks, what));
                due("none such", -100, ring.task(-1, what));
            }
            for (int far : FAR) {
                due("another what", -100, ring.task(0, far));
                due("none such", -100, ring.task(far, 0));
                due("neither", -100, ring.task(far, far));
            }
        }
    }

    private static void due(String what, boolean want, boolean got) {
        Rings.due(what, want, got);
    }

    private static void resultIfDone() {
        Rings.sentence("What came of a TASK that is DONE; 0 if it is not, or there is none such.");
        WindowRing ring = Rings.of("slice 3; def w = w(); def k a = a; task k 5; task k -5; task w; task k 0;");
        for (int task = 0; task < 4; task++) {
            due("not begun", 0, ring.result(task));
        }
        ring.run(1);
        due("under way", 0, ring.result(0));
        ring.run(1);
        due("DONE", 5, ring.result(0));
        due("not begun", 0, ring.result(1));
        ring.run(2);
        due("DONE", -5, ring.result(1));
        ring.run(500);
        due("FAILED", 0, ring.result(2));
        due("DONE", 0, ring.result(3));
        due("it stays", 5, ring.result(0));
        due("none such", 0, ring.result(4));
        for (int far : FAR) {
            due("none such", 0, ring.result(far));
        }
        ring.again(0);
        due("as ahead of its begin", 0, ring.result(0));
        ring.run(1);
        due("under way again", 0, ring.result(0));
        ring.run(1);
        due("DONE again", 5, ring.result(0));
    }

    private static void windowsAndFrames() {
        Rings.sentence("Of a WINDOW what 0: its TASK (NONE: it is FREE), 1: the FRAME (NONE).");
        WindowRing ring = Rings.of("windows 3; slice 2;" + DOWN + "task f 1; task f 1;");
        Rings.windows(ring, -1, -1, -1, -1, -1, -1);
        ring.run(1);
        Rings.windows(ring, 0, 1, -1, -1, -1, -1);
        ring.run(1);
        Rings.windows(ring, 0, 1, 0, 2, -1, -1);
        ring.run(1);
        Rings.windows(ring, 0, 1, 0, 2, 1, 1);
        ring.run(1);
        Rings.windows(ring, 1, 2, 0, 2, 1, 1);
        ring.run(1);
        Rings.windows(ring, 1, 2, 0, 1, 1, 1);
        ring.run(1);
        Rings.windows(ring, 1, 2, -1, -1, 1, 1);
        ring.run(1);
        Rings.windows(ring, -1, -1, -1, -1, 1, 1);
        ring.run(1);
        Rings.windows(ring, -1, -1, -1, -1, -1, -1);
    }

    private static void windowOfNoneSuch() {
        Rings.sentence("-2 if there is none such, or for another what.");
        for (int windows : new int[] {2, 3, 11, 12}) {
            WindowRing ring = Rings.of("windows " + windows + ";" + DOWN + "task f 30;");
            ring.run(20);
            due("the last", 0, ring.window(windows - 1, 0));
            due("the first", 0, ring.window(0, 0));
            for (int what = 0; what <= 1; what++) {
                due("behind the last", -2, ring.window(windows, what));
                due("ahead of the first", -2, ring.window(-1, what));
            }
            for (int far : new int[] {Integer.MIN_VALUE, -2, -1, 2, 3, Integer.MAX_VALUE}) {
                due("another what", -2, ring.window(0, far));
                due("another what", -2, ring.window(windows - 1, far));
            }
            for (int far : FAR) {
                due("none such", -2, ring.window(far, 0));
                due("none such", -2, ring.window(far, 1));
            }
        }
        // a FREE one, too
        due("another what", -2, new WindowRing().window(0, 2));
        due("another what", -2, new WindowRing().window(0, -1));
    }

    private static void whatLiesInAWindow() {
        Rings.sentence("What lies in a WINDOW (i 0 .. 3); 0 if it is FREE, or there is none such.");
        WindowRing ring = Rings.of("windows 2; slice 2; def g a b c d = if a > 0 then g(a - 1, a * 2, b, c) else 7;"
            + "task g 3 -1 -2 -3; task g 8 11 12 13;");
        registers(ring, 0, 0, 0, 0, 0);
        ring.run(1);
        registers(ring, 0, 3, -1, -2, -3);
        registers(ring, 1, 0, 0, 0, 0);
        ring.run(1);
        registers(ring, 1, 2, 6, -1, -2);
        // the other TASK's, in the same WINDOWS
        ring.run(2);
        registers(ring, 0, 8, 11, 12, 13);
        registers(ring, 1, 7, 16, 11, 12);
        // FILLED again: TASK 0's second in WINDOW 0, its third in 1
        ring.run(1);
        registers(ring, 0, 2, 6, -1, -2);
        registers(ring, 1, 1, 4, 6, -1);
        ring.run(500);
        due("all over", -1, ring.about(7));
        registers(ring, 0, 0, 0, 0, 0);
        registers(ring, 1, 0, 0, 0, 0);
    }

    private static void registers(WindowRing ring, int window, int... values) {
        for (int i = 0; i < 4; i++) {
            due("register(" + window + ", " + i + ")", values[i], ring.register(window, i));
        }
    }

    private static void registerOfNoneSuch() {
        Rings.sentence("0 if it is FREE, or there is none such.");
        WindowRing ring = Rings.of("windows 3; def g a b c d = if a > 0 then g(a - 1, b, c, d) else 7; task g 9 1 2 3;");
        ring.run(4);
        registers(ring, 0, 6, 1, 2, 3);
        registers(ring, 1, 8, 1, 2, 3);
        registers(ring, 2, 7, 1, 2, 3);
        for (int far : FAR) {
            for (int i = 0; i < 4; i++) {
                due("none such", 0, ring.register(far, i));
            }
            for (int window = 0; window < 3; window++) {
                due("none such", 0, ring.register(window, far));
            }
        }
        due("behind the last", 0, ring.register(3, 0));
        due("behind the fourth", 0, ring.register(0, 4));
        due("ahead of the first", 0, ring.register(0, -1));
    }

    private static void whereverItLies() {
        Rings.sentence("The value of a PARAMETER (i 0 .. 3) of a FRAME of a TASK (from 1 on), wherever it lies");
        WindowRing ring = Rings.of("windows 2; def g a b c d = if a > 0 then g(a - 1, a, b, c) else 7; task g 5 -1 -2 -3;");
        ring.run(6);
        int[][] values = {{5, -1, -2, -3}, {4, 5, -1, -2}, {3, 4, 5, -1}, {2, 3, 4, 5}, {1, 2, 3, 4}, {0, 1, 2, 3}};
        for (int frame = 1; frame <= 6; frame++) {
            due("in the STACK or not", frame <= 4 ? -2 : (frame - 1) % 2, ring.where(0, frame));
            for (int i = 0; i < 4; i++) {
                due("value(0, " + frame + ", " + i + ")", values[frame - 1][i], ring.value(0, frame, i));
            }
        }
        // FILLED again
        ring.run(3);
        for (int frame = 1; frame <= 3; frame++) {
            for (int i = 0; i < 4; i++) {
                due("value(0, " + frame + ", " + i + ")", values[frame - 1][i], ring.value(0, frame, i));
            }
        }
        due("returned", 0, ring.value(0, 4, 0));
        // sixty
        ring = Rings.of("def w n = w(n + 1); task w 100;");
        ring.run(60);
        for (int frame = 1; frame <= 60; frame++) {
            due("value(0, " + frame + ", 0)", 99 + frame, ring.value(0, frame, 0));
        }
    }

    private static void valueOfNoneSuch() {
        Rings.sentence("wherever it lies; 0 if there is none such.");
        WindowRing ring = Rings.of("windows 2; def g a b c d = if a > 0 then g(a - 1, b, c, d) else 7; task g 9 1 2 3; task g 5 1 2 3;");
        for (int frame = 0; frame <= 2; frame++) {
            due("not begun", 0, ring.value(0, frame, 0));
        }
        ring.run(5);
        due("the latest", 5, ring.value(0, 5, 0));
        for (int i = 0; i < 4; i++) {
            due("behind the latest", 0, ring.value(0, 6, i));
            due("ahead of the first", 0, ring.value(0, 0, i));
            due("not begun", 0, ring.value(1, 1, i));
            due("no such TASK", 0, ring.value(2, 1, i));
            due("no such TASK", 0, ring.value(-1, 1, i));
        }
        for (int frame = 1; frame <= 5; frame++) {
            due("behind the fourth", 0, ring.value(0, frame, 4));
            due("ahead of the first", 0, ring.value(0, frame, -1));
        }
        for (int far : FAR) {
            due("none such", 0, ring.value(far, 1, 0));
            due("none such", 0, ring.value(0, far, 0));
            due("none such", 0, ring.value(0, 1, far));
        }
        ring.run(500);
        due("DONE", 0, ring.value(0, 1, 0));
    }

    private static void whereAFrameIs() {
        Rings.sentence("Where a FRAME is: its WINDOW; -2: in the STACK");
        WindowRing ring = Rings.of("windows 3; slice 2;" + DOWN + "task f 3; task f 1;");
        int[][][] rows = {{{}, {}}, {{0}, {}}, {{0, 1}, {}}, {{0, 1}, {2}}, {{-2, 1}, {2, 0}}, {{-2, 1, 2}, {-2, 0}},
            {{-2, 1, 2, 0}, {-2, -2}}, {{-2, -2, 2, 0}, {1}}};
        for (int[][] row : rows) {
            for (int task = 0; task < 2; task++) {
                for (int frame = 1; frame <= 5; frame++) {
                    due("where(" + task + ", " + frame + ")", frame <= row[task].length ? row[task][frame - 1] : -1,
                        ring.where(task, frame));
                }
            }
            ring.run(1);
        }
        ring = Rings.of("windows 5; def w n = w(n + 1); task w 100;");
        ring.run(60);
        for (int frame = 1; frame <= 60; frame++) {
            due("where(0, " + frame + ")", frame <= 55 ? -2 : (frame - 1) % 5, ring.where(0, frame));
        }
        due("no sixty-first", -1, ring.where(0, 61));
    }

    private static void whereOfNoneSuch() {
        Rings.sentence("-2: in the STACK; NONE if there is none such.");
        WindowRing ring = Rings.of("windows 3;" + DOWN + "task f 9; task f 9;");
        due("not begun", -1, ring.where(0, 1));
        ring.run(5);
        due("the latest", 1, ring.where(0, 5));
        due("behind the latest", -1, ring.where(0, 6));
        due("the first", -2, ring.where(0, 1));
        due("ahead of the first", -1, ring.where(0, 0));
        due("not begun", -1, ring.where(1, 1));
        due("no such TASK", -1, ring.where(2, 1));
        for (int far : FAR) {
            due("none such", -1, ring.where(far, 1));
            due("none such", -1, ring.where(0, far));
        }
        ring.run(500);
        due("DONE", -1, ring.where(0, 1));
    }
}
