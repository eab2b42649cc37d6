/** Each promise by hand: ordinary inputs, the edges that the document names, wrong inputs. */
public final class PromiseTest {
    /** Five FRAMES in three WINDOWS. */
    private static final String SUM = "windows 3; def f n = if n > 0 then n + f(n - 1) else 0; task f 4;";
    /** Eight FRAMES in four WINDOWS. */
    private static final String DEEP = "windows 4; def f n = if n > 0 then f(n - 1) else 7; task f 7;";
    /** Two TASKS by turns, each in the other one's way. */
    private static final String TWO = "windows 3; slice 2; def f n = if n > 0 then f(n - 1) else 7; task f 2; task f 1;";
    private static final int[] WRONG = {-1, -2, Integer.MIN_VALUE, Integer.MAX_VALUE};

    private PromiseTest() {
    }

    public static void main(String[] args) {
        newObject();
        feedAndEnd();
        store();
        fault();
        run();
        handler();
        price();
        slice();
        again();
        undoAndRedo();
        task();
        result();
        windowAndRegister();
        valueAndWhere();
        plain();
        profile();
        depths();
        alone();
        least();
        suits();
        would();
        best();
        bestSlice();
        trap();
        comings();
        law();
        boxes();
        about();
        turns();
        formulas();
        deepStacks();
        failing();
        Rings.finish("PromiseTest");
    }

    private static void due(String what, long want, long got) {
        Rings.due(what, want, got);
    }

    private static void due(String what, boolean want, boolean got) {
        Rings.due(what, want, got);
    }

    private static void traps(WindowRing ring, int i, int... facts) {
        for (int what = 0; what < facts.length; what++) {
            due("trap(" + i + ", " + what + ")", facts[what], ring.trap(i, what));
        }
    }

    private static void windows(WindowRing ring, int... taskAndFrame) {
        for (int i = 0; i < taskAndFrame.length; i += 2) {
            due("window(" + i / 2 + ", 0)", taskAndFrame[i], ring.window(i / 2, 0));
            due("window(" + i / 2 + ", 1)", taskAndFrame[i + 1], ring.window(i / 2, 1));
        }
    }

    private static void newObject() {
        WindowRing ring = new WindowRing();
        int[] abouts = {6, 0, 0, 0, 0, 0, 0, -1, 0, 8, 0, 0, -1, 6, 0, 0, 0, 0};
        for (int what = 0; what < abouts.length; what++) {
            due("1: about(" + what + ")", abouts[what], ring.about(what));
        }
        due("1: price", 0, ring.price(10, 1));
        due("1: fault(0)", 0, ring.fault(0));
        due("1: fault(1)", -1, ring.fault(1));
        due("NONE", -1, WindowRing.NONE);
    }

    private static void feedAndEnd() {
        WindowRing ring = new WindowRing();
        // "def f = 1; task f ; " in five numbers, the highest byte first
        due("2: feed", 20, ring.feed(0x64656620, 0x66203d20, 0x313b2074, 0x61736b20, 0x66203b20));
        due("3: end", -1, ring.end(21));
        due("3: end", -1, ring.end(-1));
        due("3: end", -1, ring.end(Integer.MIN_VALUE));
        due("3: end", -1, ring.end(Integer.MAX_VALUE));
        due("3: about(16)", 20, ring.about(16));
        due("3: end", 20, ring.end(20));
        due("3: end", 19, ring.end(19));
        due("2: store", 1, ring.store());
        due("2: about(16)", 0, ring.about(16));
        for (int i = 1; i <= 50; i++) {
            due("2: feed", i * 20, ring.feed(0x20202020, 0x20202020, 0x20202020, 0x20202020, 0x20202020));
        }
        due("2: feed", -1, ring.feed(1, 2, 3, 4, 5));
        due("2: about(16)", 1000, ring.about(16));
        due("2: a thousand blanks", 0, ring.store());
        for (int i = 1; i <= 50; i++) {
            ring.feed(0, 0, 0, 0, 0);
        }
        due("3: end", 981, ring.end(981));
        due("2: feed", -1, ring.feed(0, 0, 0, 0, 0));
        due("3: end", 980, ring.end(980));
        due("2: feed", 1000, ring.feed(0, 0, 0, 0, 0));
        due("3: end", 0, ring.end(0));
        due("2: feed", 20, ring.feed(0xffffffff, 0x80000000, 0, 0, 0));
        due("2: store", -1, ring.store());
        due("2: fault(1)", 0, ring.fault(1));
    }

    private static void store() {
        WindowRing ring = Rings.of(TWO + "handler double 5; price 3 4;");
        due("4: tasks", 2, ring.about(2));
        due("4: about(10)", 3, ring.about(10));
        due("4: about(11)", 5, ring.about(11));
        ring.run(3);
        ring.image(0);
        ring.run(1);
        ring.undo();
        Rings.feed(ring, "windows 99;");
        due("4: store", -1, ring.store());
        due("4: the TAPE", 0, ring.about(16));
        due("4: all stays", 3, ring.about(3));
        due("4: all stays", 3, ring.about(0));
        due("4: ACTS stay", 1, ring.about(14));
        due("4: ACTS stay", 1, ring.about(15));
        due("4: BOXES stay", 3, ring.back(0));
        Rings.feed(ring, "def g = 5; task g;");
        due("4: store", 1, ring.store());
        int[] abouts = {6, 1, 1, 0, 0, 0, 0, 0, 0, 8, 0, 0, -1, 6, 0, 0, 0, 1};
        for (int what = 0; what < abouts.length; what++) {
            due("4: about(" + what + ")", abouts[what], ring.about(what));
        }
        due("4: BOXES are empty", -1, ring.back(0));
        due("4: no ACTS", false, ring.undo());
        due("4: no traps", -1, ring.trap(0, 0));
        due("4: the prices", 0, ring.would(0, 0, 0));
        due("4: no task 1", -100, ring.task(1, 0));
        ring.slice(3);
        due("4: empty", 0, ring.store());
        due("4: empty", 0, ring.about(1));
        due("4: empty", -1, ring.about(7));
        due("4: empty", 8, ring.about(9));
        due("4: empty", false, ring.undo());
    }

    private static void fault() {
        WindowRing ring = Rings.of("windows 1;");
        due("5: fault(0)", 2, ring.fault(0));
        due("5: fault(1)", 8, ring.fault(1));
        for (int what : new int[] {-1, 2, 3, Integer.MIN_VALUE, Integer.MAX_VALUE}) {
            due("5: fault(" + what + ")", -1, ring.fault(what));
        }
        ring.store();
        due("5: fault(0)", 0, ring.fault(0));
        due("5: fault(1)", -1, ring.fault(1));
    }

    private static void run() {
        WindowRing ring = Rings.of(SUM);
        for (int n : new int[] {0, -1, 501, Integer.MIN_VALUE, Integer.MAX_VALUE}) {
            due("6: run(" + n + ")", -1, ring.run(n));
        }
        due("6: no ACT", 0, ring.about(14));
        due("6: run(1)", 1, ring.run(1));
        due("6: run(500)", 9, ring.run(500));
        due("6: ACTS", 2, ring.about(14));
        due("6: run(1)", 0, ring.run(1));
        due("6: no ACT", 2, ring.about(14));
        ring.undo();
        due("6: refused", -1, ring.run(501));
        due("6: still to be done again", 1, ring.about(15));
        due("6: run(2)", 2, ring.run(2));
        due("6: another ACT", 0, ring.about(15));
        WindowRing far = Rings.of("def f n = if n < 2 then n else f(n - 1) + f(n - 2); task f 12;");
        due("6: run(500)", 500, far.run(500));
        due("6: run(500)", 430, far.run(500));
        due("6: result", 144, far.result(0));
    }

    private static void handler() {
        WindowRing ring = Rings.of(DEEP + "handler counter;");
        ring.run(5);
        due("7: COUNTER", 2, ring.task(0, 6));
        int[][] refused = {{-1, 1}, {4, 1}, {1, 0}, {1, 9}, {1, -1}, {3, 0}, {3, 17}, {3, Integer.MIN_VALUE},
            {Integer.MAX_VALUE, 1}, {Integer.MIN_VALUE, 1}};
        for (int[] pair : refused) {
            due("7: handler(" + pair[0] + ", " + pair[1] + ")", false, ring.handler(pair[0], pair[1]));
        }
        due("7: nothing happens", 2, ring.task(0, 6));
        due("7: nothing happens", 1, ring.about(14));
        due("7: to what there is", true, ring.handler(2, -5));
        due("7: COUNTER as at first", 1, ring.task(0, 6));
        due("7: an ACT", 2, ring.about(14));
        due("7: its n", 0, ring.about(11));
        due("7: handler(3, 16)", true, ring.handler(3, 16));
        ring.run(2);
        due("7: GUESS", 1, ring.task(0, 7));
        due("7: COUNTER not told", 1, ring.task(0, 6));
        due("7: handler(1, 8)", true, ring.handler(1, 8));
        due("7: GUESS as at first", 0, ring.task(0, 7));
        due("7: the HANDLER", 1, ring.about(10));
        due("7: its n", 8, ring.about(11));
        due("7: handler(0, ..)", true, ring.handler(0, Integer.MAX_VALUE));
        due("7: its n", 0, ring.about(11));
        due("7: handler(3, 1)", true, ring.handler(3, 1));
        due("7: handler(1, 1)", true, ring.handler(1, 1));
    }

    private static void price() {
        WindowRing ring = Rings.of(SUM + "price 7 3;");
        ring.run(5);
        due("8: COST", 20, ring.about(6));
        int[][] refused = {{-1, 0}, {0, -1}, {100, 0}, {0, 100}, {Integer.MIN_VALUE, Integer.MAX_VALUE}};
        for (int[] pair : refused) {
            due("8: price(" + pair[0] + ", " + pair[1] + ")", -1, ring.price(pair[0], pair[1]));
        }
        due("8: nothing happens", 1, ring.about(14));
        due("8: all so far", 2 * 99 + 2 * 50, ring.price(99, 50));
        due("8: COST", 298, ring.about(6));
        due("8: an ACT", 2, ring.about(14));
        due("8: to what there is", 298, ring.price(99, 50));
        due("8: an ACT", 3, ring.about(14));
        due("8: the dearest", 2 * 99 + 2 * 99, ring.price(99, 99));
        due("8: free of charge", 0, ring.price(0, 0));
        due("8: would", 0, ring.would(0, 0, 0));
        due("8: would", 2, ring.would(0, 0, 1));
    }

    private static void slice() {
        WindowRing ring = Rings.of("def f n = if n > 0 then f(n - 1) else 7; task f 9; task f 9;");
        for (int n : new int[] {0, 51, -1, Integer.MIN_VALUE, Integer.MAX_VALUE}) {
            due("9: slice(" + n + ")", -1, ring.slice(n));
        }
        due("9: nothing happens", 0, ring.about(14));
        ring.run(5);
        due("9: slice(3)", 8, ring.slice(3));
        due("9: not ahead of its next EVENT", 0, ring.about(7));
        due("9: EVENTS of the turn", 5, ring.about(8));
        ring.run(1);
        due("9: the turn has ended", 1, ring.about(7));
        due("9: EVENTS of the turn", 0, ring.about(8));
        due("9: TASK 0", 6, ring.task(0, 4));
        ring.run(2);
        due("9: slice(50)", 3, ring.slice(50));
        ring.run(2);
        due("9: longer", 1, ring.about(7));
        due("9: EVENTS of the turn", 4, ring.about(8));
        due("9: to what there is", 50, ring.slice(50));
        due("9: an ACT", 7, ring.about(14));
        due("9: slice(1)", 50, ring.slice(1));
    }

    private static void again() {
        WindowRing ring = Rings.of(TWO);
        due("10: not over", false, ring.again(0));
        ring.run(8);
        for (int task : WRONG) {
            due("10: none such", false, ring.again(task));
        }
        due("10: none such", false, ring.again(2));
        due("10: under way", false, ring.again(0));
        due("10: TASK 1 DONE", 2, ring.task(1, 1));
        due("10: again(1)", true, ring.again(1));
        due("10: its turn stays", 0, ring.about(7));
        int[] first = {0, 0, 0, 0, 0, 0, 1, 0, 0, 0, 0, 0};
        for (int what = 0; what < first.length; what++) {
            due("10: task(1, " + what + ")", first[what], ring.task(1, what));
        }
        due("10: result", 0, ring.result(1));
        due("10: EVENTS stay", 8, ring.about(3));
        due("10: TRAPS stay", 3, ring.about(4));
        due("10: the used WINDOW stays", 0, ring.about(12));
        due("10: traps stay", 6, ring.trap(0, 4));
        due("10: not over", false, ring.again(1));
        ring.run(500);
        due("10: both are over", -1, ring.about(7));
        due("10: result", 7, ring.result(1));
        due("10: again(1)", true, ring.again(1));
        due("10: its turn", 1, ring.about(7));
        due("10: no EVENTS of it", 0, ring.about(8));
        due("10: again(0)", true, ring.again(0));
        due("10: the turn stays", 1, ring.about(7));
        due("10: undo", true, ring.undo());
        due("10: undo", true, ring.undo());
        due("10: all were over", -1, ring.about(7));
    }

    private static void undoAndRedo() {
        WindowRing ring = Rings.of(TWO);
        due("11: none", false, ring.undo());
        due("12: none", false, ring.redo());
        for (int i = 1; i <= 13; i++) {
            ring.price(i, i);
        }
        due("11: kept", 12, ring.about(14));
        for (int i = 1; i <= 12; i++) {
            due("11: undo", true, ring.undo());
        }
        due("11: the oldest went", false, ring.undo());
        due("11: to be done again", 12, ring.about(15));
        for (int i = 1; i <= 12; i++) {
            due("12: redo", true, ring.redo());
        }
        due("12: no more", false, ring.redo());
        due("12: to be taken back", 12, ring.about(14));

        ring = Rings.of(TWO);
        ring.run(4);
        ring.run(1);
        windows(ring, 1, 2, 0, 2, 0, 3);
        ring.undo();
        windows(ring, 1, 2, 0, 2, 1, 1);
        due("11: EVENTS", 4, ring.about(3));
        due("11: TRAPS", 1, ring.about(4));
        traps(ring, 0, 0, 1, 1, 0, 3);
        due("11: refused acts leave REDO", -1, ring.slice(0));
        due("12: redo", true, ring.redo());
        windows(ring, 1, 2, 0, 2, 0, 3);
        ring.undo();
        ring.handler(2, 0);
        due("12: another ACT", false, ring.redo());
        ring.undo();
        due("11: HANDLER", 0, ring.about(10));
        ring.undo();
        due("11: EVENTS", 0, ring.about(3));
        due("11: not begun", 0, ring.task(0, 1));
        due("11: none", false, ring.undo());
        due("12: redo", true, ring.redo());
        due("12: redo", true, ring.redo());
        due("12: HANDLER", 2, ring.about(10));
        due("12: none", false, ring.redo());
    }

    private static void task() {
        WindowRing ring = Rings.of("def g = 3;" + DEEP + "handler counter;");
        int[] first = {1, 0, 0, 0, 0, 0, 1, 0, 0, 0, 0, 0};
        int[] atTop = {1, 1, 8, 3, 8, 8, 3, 0, 2, 0, 5, 0};
        int[] later = {1, 1, 2, 2, 14, 8, 0, 0, 2, 3, 5, 5};
        int[] over = {1, 2, 0, 0, 16, 8, 0, 0, 2, 3, 5, 5};
        facts(ring, first);
        ring.run(8);
        facts(ring, atTop);
        ring.run(6);
        facts(ring, later);
        ring.run(6);
        facts(ring, over);
        for (int what : WRONG) {
            due("13: another what", -100, ring.task(0, what));
            due("13: none such", -100, ring.task(what, 0));
        }
        due("13: another what", -100, ring.task(0, 12));
        due("13: none such", -100, ring.task(1, 1));
        WindowRing counted = Rings.of("windows 6; handler counter; def f n = if n > 0 then f(n - 1) else 7; task f 30;");
        int[] moved = {4, 4, 3, 2};
        counted.run(7);
        due("13: COUNTER", 2, counted.task(0, 6));
        counted.run(9);
        due("13: COUNTER, 3 at most", 3, counted.task(0, 6));
        for (int i = 0; i < moved.length; i++) {
            due("13: K", moved[i], counted.trap(i, 2));
        }
        WindowRing doubled = Rings.of(DEEP + "handler double 8;");
        int[] guesses = {0, 0, 0, 0, 1, 2, 2, 4, 4, -1, -2, -2, -4, -4, -4, -4};
        for (int i = 0; i < guesses.length; i++) {
            doubled.run(1);
            due("13: GUESS behind " + (i + 1), guesses[i], doubled.task(0, 7));
        }
        doubled = Rings.of(DEEP + "handler double 3;");
        doubled.run(9);
        due("13: GUESS, N at most", 3, doubled.task(0, 7));
        doubled.run(7);
        due("13: GUESS, - N at least", -3, doubled.task(0, 7));
    }

    private static void facts(WindowRing ring, int[] facts) {
        for (int what = 0; what < facts.length; what++) {
            due("13: task(0, " + what + ")", facts[what], ring.task(0, what));
        }
    }

    private static void result() {
        WindowRing ring = Rings.of(SUM + "def g = g(); task g; def h a = - a; task h 5;");
        due("14: not DONE", 0, ring.result(0));
        ring.run(9);
        due("14: not DONE", 0, ring.result(0));
        ring.run(500);
        due("14: DONE", 10, ring.result(0));
        due("14: FAILED", 0, ring.result(1));
        due("14: below 0", -5, ring.result(2));
        due("14: none such", 0, ring.result(3));
        for (int task : WRONG) {
            due("14: none such", 0, ring.result(task));
        }
    }

    private static void windowAndRegister() {
        WindowRing ring = Rings.of("windows 3; slice 2; def f a b c d = if a > 0 then f(a - 1, a, b, c) else 7;"
            + "def g n = f(n, n, n, n); task f 2 11 12 13; task g 5;");
        windows(ring, -1, -1, -1, -1, -1, -1);
        ring.run(3);
        windows(ring, 0, 1, 0, 2, 1, 1);
        int[][] lie = {{2, 11, 12, 13}, {1, 2, 11, 12}, {5, 0, 0, 0}};
        for (int w = 0; w < 3; w++) {
            for (int i = 0; i < 4; i++) {
                due("16: register(" + w + ", " + i + ")", lie[w][i], ring.register(w, i));
            }
        }
        ring.run(1);
        windows(ring, 1, 2, 0, 2, 1, 1);
        due("16: register(0, 3)", 5, ring.register(0, 3));
        for (int wrong : WRONG) {
            due("15: none such", -2, ring.window(wrong, 0));
            due("15: another what", -2, ring.window(0, wrong));
            due("16: none such", 0, ring.register(wrong, 0));
            due("16: none such", 0, ring.register(0, wrong));
        }
        due("15: none such", -2, ring.window(3, 0));
        due("15: another what", -2, ring.window(0, 2));
        due("16: none such", 0, ring.register(3, 0));
        due("16: none such", 0, ring.register(0, 4));
        ring.run(500);
        windows(ring, -1, -1, -1, -1, -1, -1);
        due("16: FREE", 0, ring.register(0, 0));
    }

    private static void valueAndWhere() {
        WindowRing ring = Rings.of("windows 3; def f a b c d = if a > 0 then f(a - 1, a, b, c) else 7;"
            + "task f 4 11 12 -13;");
        due("17: not begun", 0, ring.value(0, 1, 0));
        due("18: not begun", -1, ring.where(0, 1));
        ring.run(5);
        int[][] values = {{4, 11, 12, -13}, {3, 4, 11, 12}, {2, 3, 4, 11}, {1, 2, 3, 4}, {0, 1, 2, 3}};
        int[] places = {-2, -2, 2, 0, 1};
        for (int frame = 1; frame <= 5; frame++) {
            due("18: where(0, " + frame + ")", places[frame - 1], ring.where(0, frame));
            for (int i = 0; i < 4; i++) {
                due("17: value(0, " + frame + ", " + i + ")", values[frame - 1][i], ring.value(0, frame, i));
            }
        }
        due("18: where(0, 6)", -1, ring.where(0, 6));
        due("18: where(0, 0)", -1, ring.where(0, 0));
        due("18: where(1, 1)", -1, ring.where(1, 1));
        due("17: value(0, 0, 0)", 0, ring.value(0, 0, 0));
        due("17: value(0, 6, 0)", 0, ring.value(0, 6, 0));
        due("17: value(0, 1, 4)", 0, ring.value(0, 1, 4));
        due("17: value(1, 1, 0)", 0, ring.value(1, 1, 0));
        for (int wrong : WRONG) {
            due("17: none such", 0, ring.value(wrong, 1, 0));
            due("17: none such", 0, ring.value(0, wrong, 0));
            due("17: none such", 0, ring.value(0, 1, wrong));
            due("18: none such", -1, ring.where(wrong, 1));
            due("18: none such", -1, ring.where(0, wrong));
        }
        // back in place: the third FRAME returns from WINDOW 2, the second is filled just there
        ring.run(3);
        due("18: filled in place", 2, ring.where(0, 2));
        due("18: still in the STACK", -2, ring.where(0, 1));
        due("17: value", 12, ring.value(0, 2, 3));
    }

    private static void plain() {
        WindowRing ring = Rings.of("def f n = if n > 0 then n + f(n - 1) else 0;"
            + "def b n = if n < 2 then n else b(n - 1) + b(n - 2);"
            + "def t a c d e = 1000 * a + 100 * c + 10 * d + e; def z = 5;");
        due("19: sixty FRAMES", 1770, ring.plain(0, 59, 1, 2, 3));
        due("19: sixty-one", 0, ring.plain(0, 60, 1, 2, 3));
        due("19: b(13)", 233, ring.plain(1, 13, 0, 0, 0));
        due("19: too many EVENTS", 0, ring.plain(1, 15, 0, 0, 0));
        due("19: four numbers", 1234, ring.plain(2, 1, 2, 3, 4));
        due("19: no PARAMETERS", 5, ring.plain(3, 1, 2, 3, 4));
        due("19: none such", 0, ring.plain(4, 1, 2, 3, 4));
        for (int wrong : WRONG) {
            due("19: none such", 0, ring.plain(wrong, 1, 2, 3, 4));
        }
        due("19: nothing is done", 0, ring.about(3));
    }

    private static void profile() {
        WindowRing ring = Rings.of("def z = 1; def y n = z() + z(); def f n = if n > 0 then y(n) + y(n) + f(n - 1) else 0;"
            + "def g n = f(n) + g(n); def h n = if n > 0 then h(n - 1) + h(n - 1) else f(0);");
        due("20: EVENTS", 16, ring.profile(2, 1, 0, 0, 0, 0));
        due("20: the most FRAMES", 3, ring.profile(2, 1, 0, 0, 0, 1));
        due("20: CALLS of itself", 1, ring.profile(2, 1, 0, 0, 0, 2));
        due("20: CALLS of itself", 14, ring.profile(4, 3, 0, 0, 0, 2));
        due("20: EVENTS", 30 + 16, ring.profile(4, 3, 0, 0, 0, 0));
        due("20: no CALLS", 0, ring.profile(0, 0, 0, 0, 0, 2));
        due("20: two EVENTS", 2, ring.profile(0, 0, 0, 0, 0, 0));
        due("20: one FRAME", 1, ring.profile(0, 0, 0, 0, 0, 1));
        due("20: FAILS", -1, ring.profile(3, 0, 0, 0, 0, 0));
        for (int wrong : WRONG) {
            due("20: another what", -1, ring.profile(0, 0, 0, 0, 0, wrong));
            due("20: none such", -1, ring.profile(wrong, 0, 0, 0, 0, 0));
        }
        due("20: another what", -1, ring.profile(0, 0, 0, 0, 0, 3));
        due("20: none such", -1, ring.profile(5, 0, 0, 0, 0, 0));
        eventsAtTheEdge();
    }

    /** A recursion of just 2,000 EVENTS, and some that take more. */
    private static void eventsAtTheEdge() {
        // y(n) takes 4 n + 2 EVENTS, f(n, m) 80 n + 2 and those of y(m)
        WindowRing ring = Rings.of("def z = 1; def y n = if n > 0 then z() + y(n - 1) else 0;"
            + "def f n m = if n > 0 then y(19) + f(n - 1, m) else y(m); def g n m = f(n, m);"
            + "task f 24 19; task f 24 20; task g 24 19;");
        due("20: 80 24 + 2 + 4 18 + 2", 1996, ring.profile(2, 24, 18, 0, 0, 0));
        due("20: 2,000", 2000, ring.profile(2, 24, 19, 0, 0, 0));
        due("20: 2,004", -1, ring.profile(2, 24, 20, 0, 0, 0));
        due("20: 2,002", -1, ring.profile(3, 24, 19, 0, 0, 0));
        due("19: 2,000", 19 * 25, ring.plain(2, 24, 19, 0, 0));
        due("19: 2,004", 0, ring.plain(2, 24, 20, 0, 0));
        due("21: 2,000", 1, ring.depths(0, 1));
        due("21: y and f", 2, ring.depths(0, 2));
        due("21: y and f, and z by y", 2 + 1 + 1, ring.depths(0, 3));
        due("21: 2,004", -1, ring.depths(1, 1));
        due("21: 2,002", -1, ring.depths(2, 1));
        due("22: 2,000", true, ring.alone(0, 0, 0, 0) > 0);
        due("22: 2,002", -1, ring.alone(2, 0, 0, 0));
        due("23: 2,000", true, ring.least(0, 6) > 0);
        due("23: 2,002", -1, ring.least(2, 6));
        due("24: 2,000, but too deep", -1, ring.suits(0));
        due("24: 2,002", -1, ring.suits(2));
    }

    private static void depths() {
        WindowRing ring = Rings.of("def b n = if n < 2 then n else b(n - 1) + b(n - 2); task b 4; def g = g(); task g;");
        // b(4): b(3) b(2); b(2) b(1) b(1) b(0); b(1) b(0)
        int[] times = {-1, 1, 2, 4, 2, 0};
        for (int frames = 0; frames < times.length; frames++) {
            due("21: depths(0, " + frames + ")", times[frames], ring.depths(0, frames));
        }
        due("21: depths(0, 60)", 0, ring.depths(0, 60));
        due("21: depths(0, 61)", -1, ring.depths(0, 61));
        due("21: FAILS", -1, ring.depths(1, 1));
        due("21: none such", -1, ring.depths(2, 1));
        for (int wrong : WRONG) {
            due("21: none such", -1, ring.depths(wrong, 1));
            due("21: none such", -1, ring.depths(0, wrong));
        }
    }

    private static void alone() {
        WindowRing ring = Rings.of("slice 1; handler fixed 7;" + DEEP + "task f 7; def g = g(); task g;");
        int[][] ways = {{0, 0, 88, 8, 8}, {1, 2, 48, 4, 8}, {1, 4, 52, 4, 12}, {2, 0, 60, 5, 10}, {3, 8, 72, 6, 12}};
        for (int[] way : ways) {
            for (int what = 0; what < 3; what++) {
                due("22: alone(1, " + way[0] + ", " + way[1] + ", " + what + ")", way[2 + what],
                    ring.alone(1, way[0], way[1], what));
            }
        }
        ring.run(30);
        ring.price(2, 5);
        ring.handler(3, 4);
        due("22: these prices, all else as at first", 4 * 2 + 8 * 5, ring.alone(0, 1, 2, 0));
        due("22: another what", -1, ring.alone(0, 0, 0, 3));
        due("22: no such way", -1, ring.alone(0, 4, 0, 0));
        due("22: no such n", -1, ring.alone(0, 1, 9, 0));
        due("22: no such n", -1, ring.alone(0, 3, 0, 0));
        due("22: FAILS", -1, ring.alone(2, 0, 0, 0));
        due("22: none such", -1, ring.alone(3, 0, 0, 0));
        for (int wrong : WRONG) {
            due("22: none such", -1, ring.alone(wrong, 0, 0, 0));
            due("22: none such", -1, ring.alone(0, wrong, 0, 0));
            due("22: none such", -1, ring.alone(0, 1, wrong, 0));
            due("22: none such", -1, ring.alone(0, 0, 0, wrong));
        }
        due("22: nothing is done", 30, ring.about(3));
    }

    private static void least() {
        WindowRing ring = Rings.of(DEEP + "def g = g(); task g; def h = 1; task h;");
        due("23: three TRAPS, eight MOVES", 38, ring.least(0, 4));
        due("23: eight WINDOWS", 0, ring.least(0, 8));
        // one is spilled, one is filled
        due("23: seven WINDOWS", 22, ring.least(0, 7));
        due("23: twelve WINDOWS", 0, ring.least(0, 12));
        // six times one spilled, three times two filled: the eighth and seventh are there
        due("23: two WINDOWS", 6 * 11 + 3 * 12, ring.least(0, 2));
        due("23: no TRAP", 0, ring.least(2, 2));
        ring.price(0, 1);
        due("23: the MOVES alone", 8, ring.least(0, 4));
        ring.price(1, 0);
        due("23: the TRAPS alone", 3, ring.least(0, 4));
        due("23: one WINDOW", -1, ring.least(0, 1));
        due("23: thirteen WINDOWS", -1, ring.least(0, 13));
        due("23: FAILS", -1, ring.least(1, 4));
        due("23: none such", -1, ring.least(3, 4));
        for (int wrong : WRONG) {
            due("23: none such", -1, ring.least(wrong, 4));
            due("23: none such", -1, ring.least(0, wrong));
        }
    }

    private static void suits() {
        WindowRing ring = Rings.of("def f n = if n > 0 then f(n - 1) else 7; task f 0; task f 2; task f 11; task f 12;");
        int[] fewest = {2, 3, 12, -1, -1};
        for (int task = 0; task < fewest.length; task++) {
            due("24: suits(" + task + ")", fewest[task], ring.suits(task));
        }
        for (int wrong : WRONG) {
            due("24: none such", -1, ring.suits(wrong));
        }
        due("24: FAILS", -1, Rings.of("def g = g(); task g;").suits(0));
    }

    private static void would() {
        WindowRing ring = Rings.of(TWO);
        int[][] ways = {{0, 0, 44, 4, 4, 10}, {1, 3, 68, 6, 8, 10}};
        for (int[] way : ways) {
            for (int what = 0; what < 4; what++) {
                due("25: would(" + way[0] + ", " + way[1] + ", " + what + ")", way[2 + what], ring.would(way[0], way[1], what));
            }
        }
        ring.run(5);
        due("25: COST that comes", 22, ring.would(0, 0, 0));
        due("25: EVENTS that come", 5, ring.would(0, 0, 3));
        due("25: another what", -1, ring.would(0, 0, 4));
        due("25: another what", -1, ring.would(0, 0, -1));
        due("25: can't be", -1, ring.would(1, 9, 0));
        due("25: can't be", -1, ring.would(3, 17, 0));
        due("25: can't be", -1, ring.would(4, 1, 0));
        due("25: can't be", -1, ring.would(-1, 1, 0));
        due("25: nothing is done", 5, ring.about(3));
        due("25: no ACT", 1, ring.about(14));
        ring.run(500);
        due("25: all are over", 0, ring.would(2, 0, 3));
        WindowRing far = Rings.of("def b n = if n < 2 then n else b(n - 1) + b(n - 2); task b 30;");
        due("25: 3,000 EVENTS", 3000, far.would(2, 0, 3));
        WindowRing counted = Rings.of(DEEP + "handler counter;");
        counted.run(8);
        // as by handler(): COUNTER is 1 again, so three are filled first (K 3, then 0: 4)
        due("25: COUNTER as at first", 2, counted.would(2, 0, 1));
        due("25: COUNTER as at first", 5, counted.would(2, 0, 2));
        due("25: nothing is done", 3, counted.task(0, 6));
    }

    private static void best() {
        WindowRing ring = Rings.of(DEEP);
        due("26: fixed 2", 1, ring.best(0));
        due("26: its COST", 48, ring.best(1));
        ring.price(0, 1);
        due("26: of like ones the first", 0, ring.best(0));
        due("26: its COST", 8, ring.best(1));
        ring.price(1, 0);
        due("26: fixed 2, fixed 4 alike", 1, ring.best(0));
        ring.price(10, 1);
        ring.run(8);
        // four FRAMES are in the STACK: fixed 4 fills them by one TRAP
        due("26: COST that comes", 14, ring.best(1));
        due("26: fixed 4", 2, ring.best(0));
        due("26: another what", -1, ring.best(2));
        for (int wrong : WRONG) {
            due("26: another what", -1, ring.best(wrong));
        }
        due("26: nothing is done", 0, ring.about(10));
    }

    private static void bestSlice() {
        WindowRing ring = Rings.of(TWO);
        // from 5 on TASK 0 has but its first FRAME left when TASK 1 comes with two: no TRAP; by 4 it has two
        due("27: the SLICE", 5, ring.bestSlice(0));
        due("27: its COST", 0, ring.bestSlice(1));
        due("27: another what", -1, ring.bestSlice(2));
        for (int wrong : WRONG) {
            due("27: another what", -1, ring.bestSlice(wrong));
        }
        due("27: nothing is done", 2, ring.about(9));
        ring.run(500);
        due("27: of like ones the least", 1, ring.bestSlice(0));
        due("27: no COST", 0, ring.bestSlice(1));
        WindowRing one = Rings.of(DEEP);
        due("27: alone", 1, one.bestSlice(0));
        due("27: alone", 88, one.bestSlice(1));
    }

    private static void trap() {
        WindowRing ring = Rings.of(TWO);
        due("28: none", -1, ring.trap(0, 0));
        ring.run(10);
        traps(ring, 0, 1, 0, 1, 0, 8);
        traps(ring, 1, 1, 1, 1, 1, 6);
        traps(ring, 2, 0, 0, 1, 1, 4);
        traps(ring, 3, 0, 1, 1, 0, 3);
        due("28: no more", -1, ring.trap(4, 0));
        due("28: another what", -1, ring.trap(0, 5));
        for (int wrong : WRONG) {
            due("28: none such", -1, ring.trap(wrong, 0));
            due("28: another what", -1, ring.trap(0, wrong));
        }
        WindowRing deep = Rings.of("windows 2; def f n = if n > 0 then f(n - 1) else 7; task f 30;");
        deep.run(31);
        due("28: TRAPS", 29, deep.about(4));
        for (int i = 0; i < 20; i++) {
            traps(deep, i, 0, 0, 1, 0, 30 - i);
        }
        due("28: twenty", -1, deep.trap(20, 0));
    }

    private static void comings() {
        WindowRing ring = Rings.of(TWO + "handler fixed 3;");
        ring.run(4);
        windows(ring, 1, 2, -1, -1, 1, 1);
        due("none of TASK 0", 0, ring.task(0, 3));
        traps(ring, 0, 0, 1, 2, 0, 3);
        ring.run(1);
        windows(ring, -1, -1, 0, 2, 0, 3);
        traps(ring, 0, 0, 0, 2, 1, 4);
        traps(ring, 1, 2, 0, 1, 0, 4);
        ring.run(2);
        windows(ring, -1, -1, 0, 2, 1, 1);
        traps(ring, 0, 1, 1, 1, 1, 6);
        traps(ring, 1, 2, 1, 1, 1, 6);
        due("the used WINDOW", 2, ring.about(12));
        due("UNDERFLOWS", 2, ring.task(1, 9));
        ring.run(3);
        due("COST", 68, ring.about(6));
        due("the used WINDOW", 1, ring.about(12));

        // the HANDLER is not asked for the coming, but for the OVERFLOW ahead of it
        ring = Rings.of("windows 2; slice 2; handler counter; def f n = if n > 0 then f(n - 1) else 7; task f 1; task f 1;");
        ring.run(2);
        windows(ring, 0, 1, 0, 2);
        ring.run(1);
        // K is 2: both of TASK 0 go, its latest FRAME too
        windows(ring, 1, 1, -1, -1);
        traps(ring, 0, 0, 1, 2, 0, 2);
        due("COUNTER", 2, ring.task(1, 6));
        due("OVERFLOWS", 1, ring.task(1, 8));
        due("SPILLED", 2, ring.task(0, 10));
        ring.run(1);
        windows(ring, 1, 1, 1, 2);
        ring.run(1);
        traps(ring, 3, 0, 1, 2, 0, 2);
        traps(ring, 2, 0, 0, 2, 1, 4);
        traps(ring, 1, 2, 0, 1, 0, 4);
        traps(ring, 0, 1, 0, 1, 0, 4);
        due("TRAPS", 4, ring.about(4));
        due("COUNTER: up by the OVERFLOW, down by the RETURN's UNDERFLOW", 1, ring.task(0, 6));
        due("UNDERFLOWS", 2, ring.task(0, 9));
    }

    private static void law() {
        WindowRing ring = Rings.of(TWO);
        for (int i = 0; i < 11; i++) {
            due("29: law", 0, ring.law());
            ring.run(1);
        }
        WindowRing far = Rings.of("def b n = if n < 2 then n else b(n - 1) + b(n - 2); task b 16; def g = g(); task g;");
        for (int i = 0; i < 15; i++) {
            far.run(500);
        }
        due("29: more than plain() tells", 987, far.result(0));
        due("29: law", 0, far.law());
    }

    private static void boxes() {
        WindowRing ring = Rings.of(TWO);
        due("31: nothing was kept", -1, ring.back(0));
        ring.run(4);
        due("30: image", 4, ring.image(0));
        ring.handler(3, 9);
        ring.slice(9);
        ring.price(1, 2);
        ring.run(3);
        due("30: image", 7, ring.image(1));
        due("30: no ACT", 5, ring.about(14));
        ring.run(500);
        Rings.feed(ring, "abc");
        due("31: refused", -1, ring.back(2));
        for (int wrong : WRONG) {
            due("30: none such", -1, ring.image(wrong));
            due("31: none such", -1, ring.back(wrong));
        }
        due("30: none such", -1, ring.image(2));
        due("31: doing nothing", 10, ring.about(3));
        due("31: back", 4, ring.back(0));
        windows(ring, 1, 2, 0, 2, 1, 1);
        int[] abouts = {3, 1, 2, 4, 1, 1, 11, 0, 0, 2, 0, 0, 0, 0, 0, 0, 3, 6};
        for (int what = 0; what < abouts.length; what++) {
            due("31: about(" + what + ")", abouts[what], ring.about(what));
        }
        due("31: no UNDO", false, ring.undo());
        due("31: no REDO", false, ring.redo());
        due("31: back", 7, ring.back(1));
        due("31: the HANDLER", 3, ring.about(10));
        due("31: its n", 9, ring.about(11));
        due("31: SLICE", 9, ring.about(9));
        due("31: the TAPE stays", 3, ring.about(16));
        ring.run(500);
        due("31: back once more", 7, ring.back(1));
        due("31: the other one", 4, ring.back(0));
        ring.run(6);
        due("31: goes on as ever", 44, ring.about(6));
    }

    private static void about() {
        WindowRing ring = Rings.of(TWO + "handler fixed 3;");
        ring.run(5);
        ring.slice(4);
        ring.undo();
        Rings.feed(ring, "x");
        int[] abouts = {3, 1, 2, 5, 3, 5, 35, 0, 1, 2, 1, 3, 2, 1, 1, 1, 1, 6};
        for (int what = 0; what < abouts.length; what++) {
            due("32: about(" + what + ")", abouts[what], ring.about(what));
        }
        due("32: another what", -1, ring.about(18));
        for (int wrong : WRONG) {
            due("32: another what", -1, ring.about(wrong));
        }
    }

    private static void turns() {
        WindowRing ring = Rings.of("windows 12; slice 3; def z = 1; def f n = if n > 0 then f(n - 1) else 7;"
            + "task z; task f 4; task z; task f 2;");
        // 0: two EVENTS, then over; 1: three; 2: two; 3: three; 1: three; 3: three and over; 1: three, alone, one more
        int[] whose = {0, 1, 1, 1, 2, 2, 3, 3, 3, 1, 1, 1, 3, 3, 3, 1, 1, 1, 1, -1};
        int[] counts = {1, 0, 1, 2, 0, 1, 0, 1, 2, 0, 1, 2, 0, 1, 2, 0, 1, 2, 0, 0};
        for (int i = 0; i < whose.length; i++) {
            ring.run(1);
            due("turn behind " + (i + 1), whose[i], ring.about(7));
            due("EVENTS of it behind " + (i + 1), counts[i], ring.about(8));
        }
        due("over", 20, ring.about(3));
        // it alone is left: it goes on, by turns of SLICE, and shares them again as soon as there is another TASK
        ring = Rings.of("windows 12; slice 3; def z = 1; def f n = if n > 0 then f(n - 1) else 7; task z; task f 9;");
        ring.run(10);
        due("alone, its turn", 1, ring.about(7));
        due("alone, EVENTS of it", 2, ring.about(8));
        ring.run(1);
        due("alone, its next turn", 1, ring.about(7));
        due("alone, EVENTS of its next turn", 0, ring.about(8));
        ring.again(0);
        due("its turn still", 1, ring.about(7));
        int[] whoseNext = {1, 1, 0, 0, 1};
        int[] countsNext = {1, 2, 0, 1, 0};
        for (int i = 0; i < whoseNext.length; i++) {
            ring.run(1);
            due("turn with the other one, behind " + (i + 1), whoseNext[i], ring.about(7));
            due("EVENTS of it, behind " + (i + 1), countsNext[i], ring.about(8));
        }
        // alone from the first: a turn that SLICE makes shorter ends behind the next EVENT, and one longer goes on
        ring = Rings.of("slice 5; def f n = if n > 0 then f(n - 1) else 7; task f 20;");
        ring.run(4);
        ring.slice(2);
        due("not ahead of its next EVENT", 4, ring.about(8));
        ring.run(1);
        due("ended by the lesser SLICE", 0, ring.about(8));
        ring.run(1);
        ring.slice(50);
        ring.run(30);
        due("one turn by the greater SLICE", 31, ring.about(8));
        due("all of one TASK", 0, ring.about(7));
    }

    private static int formula(String formula) {
        return Rings.of("def k a b = 10 * a + b; def f a b = " + formula + ";").plain(1, 7, -2, 0, 0);
    }

    private static void formulas() {
        due("- of left", 4, formula("10 - 3 - 3"));
        due("* ahead of +", 7, formula("1 + 2 * 3"));
        due("/ cut", -3, formula("a / b"));
        due("/ cut", -3, formula("-a / 2"));
        due("% its rest", 1, formula("a % b"));
        due("% its rest", -1, formula("-a % 2"));
        due("/ by 0", 0, formula("a / (b + 2)"));
        due("% by 0", 0, formula("a % 0"));
        due("left before right", 2, formula("20 / 3 / 3"));
        due("- unit", 5, formula("a - -b"));
        due("- unit", 5, formula("a - - - b * -1"));
        due("if, below", 1, formula("if b < a then 1 else 2"));
        due("if, below", 2, formula("if a < a then 1 else 2"));
        due("if, above", 1, formula("if a > b then 1 else 2"));
        due("if, above", 2, formula("if a > 7 then 1 else 2"));
        due("if, like", 1, formula("if a = 7 then 1 else 2"));
        due("if, like", 2, formula("if a = b then 1 else 2"));
        due("if within if", 3, formula("if a = 1 then if b = 1 then 1 else 2 else if b = 1 then 2 else 3"));
        due("the else goes on", 8, formula("if a = 1 then 1 else 2 + 6"));
        due("if within ( )", 12, formula("(if a = 7 then 2 else 3) + 10"));
        due("calls", 77 - 2, formula("k(a, k(0, 7) + b)"));
        due("wraps", 1410065408, formula("9999 * 9999 * 100 + 9999 * 200 + 100"));
        due("wraps", Integer.MIN_VALUE, formula("(8192 * 8192 * 32) / -1"));
        due("wraps", Integer.MIN_VALUE, formula("-(8192 * 8192 * 32)"));
        due("wraps", 0, formula("(8192 * 8192 * 32) % -1"));
        due("wraps", Integer.MAX_VALUE, formula("8192 * 8192 * 32 - 1"));
        due("just the part that is chosen", 2,
            Rings.of("def f a = if a = 1 then f(a) else 0;").profile(0, 2, 0, 0, 0, 0));
    }

    /** As many numbers as can wait in each of sixty FRAMES. */
    private static void deepStacks() {
        WindowRing ring = Rings.of("def k a b c d = a + b + c + d;"
            + "def f n = if n > 0 then 1 + 1 * k(1, 1, 1, 1 + 1 * k(1, 1, 1, 1 + 1 * k(1, 1, 1, 1 + 1 * f(n - 1)))) else 0;"
            + "def g = 1 + 1 * k(1, 1, 1, 1 + 1 * k(1, 1, 1, 1 + 1 * k(1, 1, 1, 1 + 1 * k(1, 1, 1, 1 + 1 * k(1, 1, 1, 1 + 1"
            + "))))); task g;");
        due("good", 0, ring.fault(0));
        due("58 deep", 58 * 13, ring.plain(1, 58, 0, 0, 0));
        due("59 deep, k the 61st", 59 * 13, ring.plain(1, 59, 0, 0, 0));
        ring.run(500);
        due("five within", 1 + 5 * 4 + 1, ring.result(0));
        ring = Rings.of("def k a b c d = a; def g = 1 + 1 * k(1, 1, 1, 1 + 1 * k(1, 1, 1, 1 + 1 * k(1, 1, 1, 1 + 1 * "
            + "k(1, 1, 1, 1 + 1 * k(1, 1, 1, 1 + 1 * g()))))); task g;");
        due("good", 0, ring.fault(0));
        due("61 EVENTS", 61, ring.run(500));
        due("FAILED", 3, ring.task(0, 1));
        due("again", true, ring.again(0));
        due("61 EVENTS", 61, ring.run(500));
    }

    private static void failing() {
        WindowRing ring = Rings.of("windows 4; slice 50; def f n = f(n + 1); def z = 1; task f 0; task z;");
        ring.run(50);
        ring.run(1);
        // f's fiftieth FRAME lies in WINDOW 1: z's in the next one, which was f's forty-seventh's
        due("z begins in the way", 2, ring.where(1, 1));
        due("f's eldest is SPILLED", 3, ring.task(0, 3));
        ring.run(1);
        due("z is DONE", 2, ring.task(1, 1));
        due("f goes on", 0, ring.about(7));
        ring.run(10);
        due("sixty FRAMES", 60, ring.task(0, 2));
        due("the sixtieth", 59, ring.value(0, 60, 0));
        int window = ring.where(0, 60);
        int traps = ring.about(4);
        due("the EVENT", 1, ring.run(5));
        due("FAILED", 3, ring.task(0, 1));
        due("its FRAMES are gone", 0, ring.task(0, 2));
        due("none RESIDENT", 0, ring.task(0, 3));
        due("EVENTS", 61, ring.task(0, 4));
        due("the most", 60, ring.task(0, 5));
        due("no TRAP by it", traps, ring.about(4));
        due("all are FREE", 4, ring.about(13));
        due("the used WINDOW", window, ring.about(12));
        due("none such", -1, ring.where(0, 1));
        due("none such", 0, ring.value(0, 1, 0));
        due("all are over", -1, ring.about(7));
        due("again", true, ring.again(0));
        ring.run(1);
        due("begins behind the used WINDOW", (window + 1) % 4, ring.where(0, 1));
    }
}
