/** The Terms' second part, sentence by sentence: FRAMES, WINDOWS, TRAPS, HANDLERS, turns at their boundaries. */
public final class RingEdgesTest {
    /** n + 1 FRAMES, 2 n + 2 EVENTS. */
    private static final String DOWN = "def f n = if n > 0 then f(n - 1) else 7; ";
    /** A FUNCTION that never comes back. */
    private static final String ENDLESS = "def w n = w(n + 1); ";
    private static final int SINGLE = 0;
    private static final int COUNTER = 2;
    private static final int DOUBLE = 3;

    private RingEdgesTest() {
    }

    public static void main(String[] args) {
        leftBeforeRight();
        partThatIsChosen();
        eventsThereAre();
        sixtyFrames();
        framesAreGone();
        fewerThanFour();
        latestFrames();
        behindTheLastWindow();
        allButTheOneThatCalls();
        allOfAnother();
        eldestOfAnother();
        filledInJustThatWindow();
        aheadInTheRing();
        asLongAsFree();
        noMoreThanThereAre();
        beginInWindowZero();
        beginBehind();
        beginBehindOneThatIsOver();
        beginWhereItIsNotFree();
        comingFilled();
        comingByTheHandler();
        comingThatFails();
        single();
        fixed();
        counterBounds();
        doubleBounds();
        doubleTurnsRound();
        askedForTheOneThatComes();
        trapsAndMoves();
        turns();
        aloneLeft();
        allOver();
        Rings.finish("RingEdgesTest");
    }

    private static void due(String what, long want, long got) {
        Rings.due(what, want, got);
    }

    private static void task(WindowRing ring, int task, int what, int want) {
        due("task(" + task + ", " + what + ")", want, ring.task(task, what));
    }

    private static void leftBeforeRight() {
        Rings.sentence("A TASK goes through its FUNCTION, left before right");
        // each CALL is known by its number: ids in the order in which they come
        order("i(1) + i(2) * i(3) - i(4)", 1, 2, 3, 4);
        order("i(i(1) + 4) + i(2)", 1, 5, 2);
        order("k(i(1), i(2)) + i(3)", 1, 2, 12, 3);
        order("if i(1) < i(2) then i(3) else i(4)", 1, 2, 3);
        order("-i(1) * (i(2) + i(3))", 1, 2, 3);
    }

    /** Which numbers the second FRAME has, CALL by CALL. */
    private static void order(String formula, int... ids) {
        WindowRing ring = Rings.good(1, "def i a = a; def k a b = a * 10 + b; def m = " + formula + "; task m;");
        ring.run(1);
        for (int id : ids) {
            ring.run(1);
            due("FRAMES in " + formula, 2, ring.task(0, 2));
            int first = ring.value(0, 2, 0);
            due("the CALL in " + formula, id, id > 9 ? first * 10 + ring.value(0, 2, 1) : first);
            ring.run(1);
        }
        due("its RETURN in " + formula, 1, ring.run(500));
        task(ring, 0, 1, 2);
    }

    private static void partThatIsChosen() {
        Rings.sentence("of if just the part that is chosen");
        String text = "def w n = w(n); def z = 3; def f a = if a = 1 then z() else w(1); def g a = if a = 1 then w(1) else z();";
        WindowRing ring = Rings.good(0, text);
        due("then", 3, ring.plain(2, 1, 0, 0, 0));
        due("its EVENTS", 4, ring.profile(2, 1, 0, 0, 0, 0));
        due("else FAILS", -1, ring.profile(2, 2, 0, 0, 0, 0));
        due("then FAILS", -1, ring.profile(3, 1, 0, 0, 0, 0));
        due("else", 3, ring.plain(3, 2, 0, 0, 0));
        due("its EVENTS", 4, ring.profile(3, 2, 0, 0, 0, 0));
    }

    private static void eventsThereAre() {
        Rings.sentence("EVENTS: its begin and each CALL (of a FUNCTION, when all its e are there), and each RETURN.");
        WindowRing ring = Rings.good(1, "def z = 3; def k a b = a + b; def m = k(z(), z()); task m;");
        // begin, z, back, z, back, k, back, back
        int[] frames = {1, 2, 1, 2, 1, 2, 1, 0};
        for (int i = 0; i < frames.length; i++) {
            due("run(1)", 1, ring.run(1));
            task(ring, 0, 2, frames[i]);
            task(ring, 0, 4, i + 1);
            due("about(3)", i + 1, ring.about(3));
        }
        due("no more", 0, ring.run(1));
        due("result", 6, ring.result(0));
    }

    private static void sixtyFrames() {
        Rings.sentence("It has FRAMES 1, 2, .. (60 at most; by a CALL of a 61st the TASK FAILS: that is an EVENT;");
        WindowRing ring = Rings.good(2, "slice 50;" + DOWN + "task f 59; task f 60;");
        ring.run(500);
        task(ring, 0, 1, 2);
        task(ring, 0, 4, 120);
        task(ring, 0, 5, 60);
        due("result", 7, ring.result(0));
        task(ring, 1, 1, 3);
        task(ring, 1, 4, 61);
        task(ring, 1, 5, 60);
        due("no result", 0, ring.result(1));
        ring = Rings.good(1, DOWN + "task f 60;");
        due("sixty", 60, ring.run(60));
        task(ring, 0, 1, 1);
        task(ring, 0, 2, 60);
        due("the sixtieth", 1, ring.value(0, 60, 0));
        int traps = ring.about(4);
        due("one more EVENT", 1, ring.run(500));
        task(ring, 0, 1, 3);
        due("no TRAP by it", traps, ring.about(4));
    }

    private static void framesAreGone() {
        Rings.sentence("its FRAMES are gone)");
        WindowRing ring = Rings.good(2, "windows 7; slice 50;" + DOWN + ENDLESS + "task w 0; task f 3;");
        ring.run(50);
        ring.run(8);
        task(ring, 1, 1, 2);
        ring.run(10);
        task(ring, 0, 2, 60);
        int resident = ring.task(0, 3);
        due("RESIDENT, and FREE", 7, resident + ring.about(13));
        ring.run(1);
        task(ring, 0, 1, 3);
        task(ring, 0, 2, 0);
        task(ring, 0, 3, 0);
        due("FREE", 7, ring.about(13));
        for (int frame = 1; frame <= 60; frame++) {
            due("where", -1, ring.where(0, frame));
            due("value", 0, ring.value(0, frame, 0));
        }
        Rings.windows(ring, -1, -1, -1, -1, -1, -1, -1, -1, -1, -1, -1, -1, -1, -1);
        due("about(7)", -1, ring.about(7));
        // another one's FRAMES stay: TASK 1 has three in the way of TASK 0's sixty
        ring = Rings.good(2, "windows 12; slice 50;" + DOWN + ENDLESS + "task w 0; task f 9;");
        ring.run(50);
        ring.slice(1);
        ring.run(1);
        ring.slice(10);
        ring.run(10);
        ring.slice(2);
        ring.run(2);
        due("TASK 0's turn", 0, ring.about(7));
        task(ring, 0, 2, 60);
        task(ring, 0, 3, 9);
        ring.run(1);
        task(ring, 0, 1, 3);
        Rings.windows(ring, 1, 1, 1, 2, 1, 3, -1, -1, -1, -1, -1, -1, -1, -1, -1, -1, -1, -1, -1, -1, -1, -1, -1, -1);
        due("its value", 8, ring.value(1, 2, 0));
        due("FREE", 9, ring.about(13));
        due("the used WINDOW", 11, ring.about(12));
    }

    private static void fewerThanFour() {
        Rings.sentence("the values of a FRAME's PARAMETERS (0 where there are fewer than 4)");
        WindowRing ring = Rings.good(1, "def q a b c d = a; def g n = n; def z = 1;"
            + "def m x y = q(1, 2, 3, 4) + g(5) + z() + q(6, 7, 8, 9); task m 8 9;");
        ring.run(1);
        values(ring, 1, 8, 9, 0, 0);
        ring.run(1);
        values(ring, 2, 1, 2, 3, 4);
        // the same FRAME's place, of a FUNCTION with fewer
        ring.run(2);
        values(ring, 2, 5, 0, 0, 0);
        ring.run(2);
        values(ring, 2, 0, 0, 0, 0);
        ring.run(2);
        values(ring, 2, 6, 7, 8, 9);
        values(ring, 1, 8, 9, 0, 0);
    }

    private static void values(WindowRing ring, int frame, int... values) {
        for (int i = 0; i < 4; i++) {
            due("value(0, " + frame + ", " + i + ")", values[i], ring.value(0, frame, i));
            due("register", values[i], ring.register(ring.where(0, frame), i));
        }
    }

    private static void latestFrames() {
        Rings.sentence("RESIDENT are always its latest FRAMES.");
        WindowRing ring = Rings.good(3, "windows 5; slice 3; handler counter;" + DOWN + "task f 9; task f 4; task f 7;");
        for (int i = 0; i < 16; i++) {
            for (int task = 0; task < 3; task++) {
                int frames = ring.task(task, 2);
                int resident = ring.task(task, 3);
                int latest = ring.where(task, frames);
                for (int frame = 1; frame <= frames; frame++) {
                    int due = frame <= frames - resident ? -2 : (latest - (frames - frame) + 10) % 5;
                    due("where(" + task + ", " + frame + ")", due, ring.where(task, frame));
                }
            }
            ring.run(3);
        }
    }

    private static void behindTheLastWindow() {
        Rings.sentence("A CALL: the new FRAME's WINDOW is the one behind that of the FRAME that calls.");
        for (int windows = 2; windows <= 12; windows++) {
            WindowRing ring = Rings.good(1, "windows " + windows + ";" + DOWN + "task f 30;");
            for (int frame = 1; frame <= 2 * windows + 1; frame++) {
                ring.run(1);
                due("the WINDOW of " + frame + " of " + windows, (frame - 1) % windows, ring.where(0, frame));
                due("the used one", (frame - 1) % windows, ring.about(12));
                due("OVERFLOWS", Math.max(0, frame - windows), ring.task(0, 8));
            }
        }
    }

    private static void allButTheOneThatCalls() {
        Rings.sentence("(moved to its STACK; all of them at most, of the one that calls all but the FRAME that calls)");
        // windows, K, MOVES
        int[][] rows = {{2, 1, 1}, {2, 2, 1}, {2, 8, 1}, {3, 1, 1}, {3, 2, 2}, {3, 3, 2}, {8, 6, 6}, {8, 7, 7}, {8, 8, 7},
            {9, 7, 7}, {9, 8, 8}, {12, 8, 8}};
        for (int[] row : rows) {
            WindowRing ring = Rings.good(1, "windows " + row[0] + "; handler fixed " + row[1] + ";" + DOWN + "task f 20;");
            ring.run(row[0]);
            due("no TRAP", 0, ring.about(4));
            due("none FREE", 0, ring.about(13));
            ring.run(1);
            Rings.trap(ring, 0, 0, 0, row[2], 0, row[0]);
            due("MOVES", row[2], ring.about(5));
            task(ring, 0, 3, row[0] - row[2] + 1);
            task(ring, 0, 10, row[2]);
            due("the one that calls", row[0] - 1, ring.where(0, row[0]));
            due("the new one", 0, ring.where(0, row[0] + 1));
            due("the last SPILLED", -2, ring.where(0, row[2]));
            due("the first that is not", row[2], ring.where(0, row[2] + 1));
        }
    }

    private static void allOfAnother() {
        Rings.sentence("of the TASK whose FRAME is there the K eldest RESIDENT FRAMES are SPILLED");
        // three FRAMES of TASK 0 fill the ring when TASK 1 begins
        for (int k = 1; k <= 4; k++) {
            WindowRing ring = Rings.good(2, "windows 3; slice 3; handler fixed " + k + ";" + DOWN + "task f 5; task f 5;");
            ring.run(4);
            int moved = Math.min(k, 3);
            Rings.trap(ring, 0, 0, 1, moved, 0, 3);
            Rings.trap(ring, 1, -1);
            task(ring, 0, 3, 3 - moved);
            task(ring, 0, 10, moved);
            task(ring, 0, 8, 0);
            task(ring, 1, 8, 1);
            task(ring, 1, 10, 0);
            due("the latest", k < 3 ? 2 : -2, ring.where(0, 3));
            due("the eldest", -2, ring.where(0, 1));
            due("TASK 1", 0, ring.where(1, 1));
        }
    }

    private static void eldestOfAnother() {
        Rings.sentence("Is it not FREE, there is an OVERFLOW");
        // by a CALL, of the other one: both go, its latest too
        WindowRing ring = Rings.good(2, "windows 4; slice 2; handler fixed 8;" + DOWN + "task f 5; task f 5;");
        ring.run(4);
        Rings.windows(ring, 0, 1, 0, 2, 1, 1, 1, 2);
        due("all were FREE", 0, ring.about(4));
        ring.run(1);
        Rings.windows(ring, 0, 1, 0, 2, 0, 3, -1, -1);
        Rings.trap(ring, 0, 0, 0, 2, 1, 4);
        ring.run(1);
        Rings.windows(ring, 0, 1, 0, 2, 0, 3, 0, 4);
        due("FREE again: no OVERFLOW", 1, ring.about(4));
        // TASK 1 comes behind WINDOW 3: all four of TASK 0 go, then its latest is FILLED, then it calls
        ring.run(1);
        Rings.windows(ring, 1, 2, 1, 3, -1, -1, -1, -1);
        Rings.trap(ring, 0, 2, 1, 1, 1, 6);
        Rings.trap(ring, 1, 0, 1, 4, 0, 6);
        due("law", 0, ring.law());
    }

    private static void filledInJustThatWindow() {
        Rings.sentence("if the caller is not RESIDENT there is an UNDERFLOW: it is FILLED (moved) into just that WINDOW");
        WindowRing ring = Rings.good(1, "windows 3;" + DOWN + "task f 4;");
        ring.run(5);
        Rings.windows(ring, 0, 4, 0, 5, 0, 3);
        ring.run(1);
        Rings.windows(ring, 0, 4, -1, -1, 0, 3);
        ring.run(1);
        Rings.windows(ring, -1, -1, -1, -1, 0, 3);
        task(ring, 0, 9, 0);
        ring.run(1);
        Rings.windows(ring, -1, -1, -1, -1, 0, 2);
        Rings.trap(ring, 0, 1, 0, 1, 0, 7);
        task(ring, 0, 9, 1);
        task(ring, 0, 11, 1);
        due("the used WINDOW", 2, ring.about(12));
        ring.run(1);
        Rings.windows(ring, -1, -1, -1, -1, 0, 1);
        ring.run(1);
        Rings.windows(ring, -1, -1, -1, -1, -1, -1);
        due("no caller, no UNDERFLOW", 2, ring.task(0, 9));
    }

    private static void aheadInTheRing() {
        Rings.sentence("and of the FRAMES ahead of it so many more into those ahead in the ring, one by one");
        // all but the caller go at each OVERFLOW: by the 4th, 6th, 8th FRAME; the 7th returns from WINDOW 0
        WindowRing ring = Rings.good(1, "windows 3; handler fixed 8;" + DOWN + "task f 7;");
        ring.run(8);
        Rings.windows(ring, 0, 7, 0, 8, -1, -1);
        due("OVERFLOWS", 3, ring.task(0, 8));
        ring.run(2);
        // behind WINDOW 0 ahead in the ring lies the last one
        Rings.windows(ring, 0, 6, 0, 4, 0, 5);
        Rings.trap(ring, 0, 1, 0, 3, 0, 9);
        ring.run(3);
        Rings.windows(ring, 0, 2, 0, 3, 0, 1);
        Rings.trap(ring, 0, 1, 0, 3, 0, 12);
        ring.run(3);
        due("all over", -1, ring.about(7));
        due("result", 7, ring.result(0));
    }

    private static void asLongAsFree() {
        Rings.sentence("as long as these are FREE, K in all at most.");
        // TASK 0: four FRAMES, three SPILLED by TASK 1, whose fourth returned: WINDOW 2 is FREE, 1 is not
        int[][] rows = {{1, 1}, {2, 2}, {3, 2}, {8, 2}};
        for (int[] row : rows) {
            WindowRing ring = inTheWay();
            ring.handler(1, row[0]);
            ring.run(1);
            Rings.trap(ring, 0, 1, 0, row[1], 0, 9);
            Rings.windows(ring, 1, 2, 1, 3, row[1] > 1 ? 0 : -1, row[1] > 1 ? 2 : -1, 0, 3, 1, 1);
            due("the eldest", -2, ring.where(0, 1));
        }
        // and none FREE but that one
        for (int k = 1; k <= 2; k++) {
            WindowRing ring = Rings.good(2, "windows 4; slice 3;" + DOWN + "task f 2; task f 3;");
            ring.run(6);
            Rings.windows(ring, 1, 2, 1, 3, 0, 3, 1, 1);
            ring.handler(1, k);
            ring.run(1);
            Rings.windows(ring, 1, 2, 1, 3, 0, 2, 1, 1);
            Rings.trap(ring, 0, 1, 0, 1, 0, 6);
        }
    }

    /** TASK 0's fourth FRAME in WINDOW 3, three in the STACK; TASK 1's in 4, 0, 1; 2 is FREE. TASK 0 returns next. */
    private static WindowRing inTheWay() {
        WindowRing ring = Rings.good(2, "windows 5; slice 4;" + DOWN + "task f 3; task f 3;");
        ring.run(4);
        ring.slice(5);
        ring.run(5);
        Rings.windows(ring, 1, 2, 1, 3, -1, -1, 0, 4, 1, 1);
        task(ring, 0, 3, 1);
        due("TASK 0's turn", 0, ring.about(7));
        return ring;
    }

    private static void noMoreThanThereAre() {
        Rings.sentence("K in all at most.");
        // WINDOWS, K, MOVES of the first UNDERFLOW: K of them, but no more than the ring has
        int[][] rows = {{4, 1, 1}, {4, 2, 2}, {4, 3, 3}, {4, 4, 4}, {4, 8, 4}};
        for (int[] row : rows) {
            WindowRing ring = Rings.good(1, "windows " + row[0] + ";" + DOWN + "task f 11;");
            ring.run(12);
            task(ring, 0, 3, 4);
            ring.handler(1, row[1]);
            ring.run(4);
            Rings.trap(ring, 0, 1, 0, row[2], 0, 15);
            task(ring, 0, 3, row[2]);
            task(ring, 0, 11, row[2]);
        }
        // two in the STACK
        for (int k = 1; k <= 4; k++) {
            WindowRing ring = Rings.good(1, "windows 4;" + DOWN + "task f 5;");
            ring.run(6);
            ring.handler(1, k);
            ring.run(4);
            Rings.trap(ring, 0, 1, 0, Math.min(k, 2), 0, 9);
            due("the eldest", k > 1 ? 1 : -2, ring.where(0, 1));
        }
    }

    private static void beginInWindowZero() {
        Rings.sentence("WINDOW 0, if there was none");
        WindowRing ring = Rings.good(2, DOWN + "task f 2; task f 2;");
        due("none", -1, ring.about(12));
        ring.run(1);
        due("WINDOW 0", 0, ring.where(0, 1));
        due("used", 0, ring.about(12));
        ring.undo();
        due("none again", -1, ring.about(12));
    }

    private static void beginBehind() {
        Rings.sentence("a TASK's WINDOW is the one behind that which was used by the latest EVENT: the WINDOW of its TASK's latest FRAME behind it");
        // by a CALL, in the middle and at the ring's end
        for (int windows = 2; windows <= 4; windows++) {
            WindowRing ring = Rings.good(2, "windows " + windows + "; slice 2;" + DOWN + "task f 5; task f 5;");
            ring.run(2);
            due("used", 1, ring.about(12));
            ring.run(1);
            due("behind it", 2 % windows, ring.where(1, 1));
        }
        // by a RETURN: the caller's
        WindowRing ring = Rings.good(2, "windows 6; slice 4;" + DOWN + "task f 2; task f 5;");
        ring.run(4);
        due("used", 1, ring.about(12));
        ring.run(1);
        due("behind it", 2, ring.where(1, 1));
        // by an UNDERFLOW: that in which the caller was FILLED
        ring = Rings.good(2, "windows 2; slice 4;" + DOWN + "task f 2; task f 5;");
        ring.run(3);
        Rings.windows(ring, 0, 3, 0, 2);
        ring.slice(5);
        ring.run(2);
        Rings.windows(ring, -1, -1, 0, 1);
        due("used", 1, ring.about(12));
        ring.run(1);
        due("behind it", 0, ring.where(1, 1));
    }

    private static void beginBehindOneThatIsOver() {
        Rings.sentence("(if that was over by it: which its latest FRAME had ahead of it)");
        WindowRing ring = Rings.good(3, "windows 3;" + DOWN + "task f 0; task f 0; task f 2;");
        ring.run(2);
        due("used by one that is DONE", 0, ring.about(12));
        ring.run(1);
        due("behind it", 1, ring.where(1, 1));
        ring.run(2);
        due("behind that", 2, ring.where(2, 1));
        ring.run(1);
        due("and round", 0, ring.where(2, 2));
        for (int windows = 2; windows <= 12; windows++) {
            ring = Rings.good(2, "windows " + windows + "; slice 50;" + DOWN + ENDLESS + "task w 0; task f 0;");
            ring.run(50);
            ring.run(2);
            ring.run(10);
            int sixtieth = ring.where(0, 60);
            ring.run(1);
            task(ring, 0, 1, 3);
            due("used by one that FAILED", sixtieth, ring.about(12));
            ring.again(1);
            ring.run(1);
            due("behind it", (sixtieth + 1) % windows, ring.where(1, 1));
        }
    }

    private static void beginWhereItIsNotFree() {
        Rings.sentence("is that not FREE, there is an OVERFLOW likewise (K by the HANDLER, asked for the TASK that comes).");
        WindowRing ring = Rings.good(3, "windows 2; slice 1; handler counter;" + DOWN + "task f 1; task f 1; task f 1;");
        ring.run(2);
        due("FREE: no TRAP", 0, ring.about(4));
        task(ring, 1, 6, 1);
        ring.run(1);
        Rings.trap(ring, 0, 0, 2, 1, 0, 2);
        task(ring, 2, 6, 2);
        task(ring, 2, 8, 1);
        task(ring, 0, 6, 1);
        task(ring, 0, 10, 1);
        Rings.windows(ring, 2, 1, 1, 1);
    }

    private static void comingFilled() {
        Rings.sentence("ahead of its next EVENT the latest one is FILLED then: an UNDERFLOW of one MOVE");
        // TASK 1's begin spills both of TASK 0
        WindowRing ring = Rings.good(2, "windows 2; slice 2; handler fixed 2;" + DOWN + "task f 4; task f 0;");
        ring.run(4);
        Rings.windows(ring, -1, -1, -1, -1);
        due("TASK 0's turn", 0, ring.about(7));
        task(ring, 0, 3, 0);
        due("not ahead of its EVENT", 1, ring.about(4));
        due("in the STACK", -2, ring.where(0, 2));
        // TASK 1 used WINDOW 0: the latest FRAME alone comes to 1, though K is 2 and all are FREE; then it calls
        ring.run(1);
        Rings.windows(ring, 0, 3, 0, 2);
        Rings.trap(ring, 0, 2, 0, 1, 0, 4);
        task(ring, 0, 9, 1);
        task(ring, 0, 11, 1);
        due("one TRAP more", 2, ring.about(4));
        due("MOVES", 3, ring.about(5));
        due("the eldest", -2, ring.where(0, 1));
        // it has FRAMES that are RESIDENT when its turn comes: nothing is FILLED
        ring = Rings.good(2, "windows 3; slice 2;" + DOWN + "task f 4; task f 0;");
        ring.run(5);
        due("no TRAP", 0, ring.about(4));
        Rings.windows(ring, 0, 1, 0, 2, 0, 3);
    }

    private static void comingByTheHandler() {
        Rings.sentence("the HANDLER is not asked, nor told)");
        for (int way = SINGLE; way <= DOUBLE; way++) {
            WindowRing ring = Rings.good(2, "windows 2; slice 2; handler fixed 2;" + DOWN + "task f 4; task f 0;");
            ring.run(4);
            ring.handler(way, 8);
            ring.run(1);
            Rings.trap(ring, 0, 2, 0, 1, 0, 4);
            task(ring, 0, 6, 1);
            task(ring, 0, 7, 0);
            task(ring, 0, 9, 1);
        }
        // but it is asked for the OVERFLOW ahead of it, for the one that comes
        WindowRing ring = Rings.good(2, "windows 2; slice 2; handler fixed 2;" + DOWN + "task f 4; task f 4;");
        ring.run(4);
        Rings.windows(ring, 1, 1, 1, 2);
        ring.handler(DOUBLE, 8);
        ring.run(1);
        Rings.trap(ring, 2, 0, 0, 1, 1, 4);
        Rings.trap(ring, 1, 2, 0, 1, 0, 4);
        // and once more by its CALL
        Rings.trap(ring, 0, 0, 0, 1, 1, 4);
        due("TRAPS", 4, ring.about(4));
        task(ring, 0, 7, 2);
        task(ring, 1, 7, 0);
        task(ring, 1, 10, 2);
    }

    private static void comingThatFails() {
        Rings.sentence("by a CALL of a 61st the TASK FAILS: that is an EVENT");
        // each in its turn of 30 spills the other one wholly; at its sixtieth FRAME it comes, and FAILS
        WindowRing ring = Rings.good(2, "windows 2; slice 30; handler fixed 8;" + ENDLESS + "task w 0; task w 0;");
        ring.run(120);
        Rings.windows(ring, 1, 59, 1, 60);
        int traps = ring.about(4);
        ring.run(1);
        task(ring, 0, 1, 3);
        due("an OVERFLOW and the coming, none by the CALL", traps + 2, ring.about(4));
        Rings.trap(ring, 0, 2, 0, 1, 0, 120);
        Rings.trap(ring, 1, 0, 0, 2, 1, 120);
        due("used: where it came", 0, ring.about(12));
        Rings.windows(ring, -1, -1, -1, -1);
        ring.run(1);
        Rings.trap(ring, 0, 2, 1, 1, 1, 121);
        due("behind that", 1, ring.about(12));
        due("all over", -1, ring.about(7));
        due("EVENTS", 122, ring.about(3));
    }

    private static void single() {
        Rings.sentence("K, by the HANDLER: single: 1.");
        WindowRing ring = Rings.good(1, "windows 4;" + DOWN + "task f 7;");
        ring.run(500);
        due("OVERFLOWS", 4, ring.task(0, 8));
        due("UNDERFLOWS", 4, ring.task(0, 9));
        due("MOVES", 8, ring.about(5));
        task(ring, 0, 6, 1);
        task(ring, 0, 7, 0);
    }

    private static void fixed() {
        Rings.sentence("fixed N: N.");
        for (int n = 1; n <= 8; n++) {
            WindowRing ring = Rings.good(1, "windows 12; handler fixed " + n + ";" + DOWN + "task f 40;");
            ring.run(13);
            Rings.trap(ring, 0, 0, 0, n, 0, 12);
            ring.run(500);
            task(ring, 0, 6, 1);
            task(ring, 0, 7, 0);
            int spilled = ring.task(0, 10);
            due("SPILLED as often as FILLED", spilled, ring.task(0, 11));
            due("by N each", (spilled + n - 1) / n, ring.task(0, 9));
            due("by N each", spilled / n, ring.task(0, 8));
        }
    }

    private static void counterBounds() {
        Rings.sentence("at an OVERFLOW K is COUNTER and 1, then COUNTER is one more (3 at most)");
        WindowRing ring = Rings.good(1, "windows 6; handler counter;" + DOWN + "task f 30;");
        // the ring is full at these FRAMES' CALLS
        int[] frames = {7, 9, 12, 16, 20, 24, 28};
        int[] spilled = {2, 3, 4, 4, 4, 4, 4};
        int[] counters = {2, 3, 3, 3, 3, 3, 3};
        task(ring, 0, 6, 1);
        int at = 0;
        for (int i = 0; i < frames.length; i++) {
            ring.run(frames[i] - 1 - at);
            due("OVERFLOWS", i, ring.about(4));
            ring.run(1);
            at = frames[i];
            Rings.trap(ring, 0, 0, 0, spilled[i], 0, frames[i] - 1);
            task(ring, 0, 6, counters[i]);
        }
        ring.run(3);
        task(ring, 0, 2, 31);
        Rings.windows(ring, 0, 31, 0, 26, 0, 27, 0, 28, 0, 29, 0, 30);
        Rings.sentence("at an UNDERFLOW K is 4 less COUNTER, then COUNTER is one less (0 at least)");
        int[] returns = {6, 1, 2, 3, 4, 4, 4, 4};
        int[] filled = {1, 2, 3, 4, 4, 4, 4, 3};
        int[] lesser = {2, 1, 0, 0, 0, 0, 0, 0};
        for (int i = 0; i < returns.length; i++) {
            ring.run(returns[i]);
            Rings.trap(ring, 0, 1, 0, filled[i], 0, ring.about(3) - 1);
            task(ring, 0, 6, lesser[i]);
            due("UNDERFLOWS", i + 1, ring.task(0, 9));
        }
        task(ring, 0, 2, 3);
        task(ring, 0, 7, 0);
        ring.run(500);
        task(ring, 0, 6, 0);
    }

    private static void doubleBounds() {
        Rings.sentence("at an OVERFLOW, if GUESS is above 0, it doubles, N at most, else it is 1; K is GUESS");
        // sixty FRAMES in twelve WINDOWS, eleven MOVES at most by an OVERFLOW, twelve by an UNDERFLOW
        guesses(16, new int[] {1, 2, 4, 8, 16, 16, 16}, new int[] {1, 2, 4, 8, 11, 11, 11}, new int[] {1, 2, 4, 8, 12, 12, 9});
        guesses(8, new int[] {1, 2, 4, 8, 8, 8, 8, 8, 8}, new int[] {1, 2, 4, 8, 8, 8, 8, 8, 8},
            new int[] {1, 2, 4, 8, 8, 8, 8, 8, 8});
        guesses(7, new int[] {1, 2, 4, 7, 7, 7, 7, 7, 7}, new int[] {1, 2, 4, 7, 7, 7, 7, 7, 7},
            new int[] {1, 2, 4, 7, 7, 7, 7, 7, 7});
        guesses(2, new int[] {1, 2, 2, 2}, new int[] {1, 2, 2, 2}, new int[] {1, 2, 2, 2});
        guesses(1, new int[] {1, 1, 1}, new int[] {1, 1, 1}, new int[] {1, 1, 1});
    }

    private static void guesses(int n, int[] guesses, int[] spilled, int[] filled) {
        WindowRing ring = Rings.good(1, "windows 12; handler double " + n + ";" + DOWN + "task f 59;");
        task(ring, 0, 7, 0);
        ring.run(12);
        task(ring, 0, 7, 0);
        int steps = 1;
        for (int i = 0; i < guesses.length; i++) {
            ring.run(steps);
            task(ring, 0, 7, guesses[i]);
            Rings.trap(ring, 0, 0, 0, spilled[i]);
            due("OVERFLOWS", i + 1, ring.about(4));
            // so many FRAMES till the ring is full again, and the one that does not fit
            steps = spilled[i];
        }
        ring.run(60 - ring.task(0, 2));
        task(ring, 0, 2, 60);
        int traps = ring.about(4);
        steps = ring.task(0, 3);
        for (int i = 0; i < filled.length; i++) {
            ring.run(steps);
            task(ring, 0, 7, -guesses[i]);
            Rings.trap(ring, 0, 1, 0, filled[i]);
            due("UNDERFLOWS", traps + i + 1, ring.about(4));
            steps = filled[i];
        }
        task(ring, 0, 6, 1);
    }

    private static void doubleTurnsRound() {
        Rings.sentence("at an UNDERFLOW, if it is below 0, it doubles, - N at least, else it is - 1; K is that without its sign.");
        WindowRing ring = Rings.good(1, "windows 2; handler double 4; def f n = if n > 0 then f(n - 1) else 7;"
            + "def m n = f(n) + f(n); task m 3;");
        // to five FRAMES, to one, to five again: OVERFLOWS by the 3rd, 4th, 5th; UNDERFLOWS by the RETURNS to the 3rd (one is
        // FILLED), to the 2nd (two are)
        int[] guesses = {0, 0, 1, 2, 4, 4, -1, -2, -2, -2, 1, 2, 4, 4, -1, -2, -2, -2};
        int[] frames = {1, 2, 3, 4, 5, 4, 3, 2, 1, 2, 3, 4, 5, 4, 3, 2, 1, 0};
        for (int i = 0; i < frames.length; i++) {
            ring.run(1);
            task(ring, 0, 2, frames[i]);
            task(ring, 0, 7, guesses[i]);
        }
        due("OVERFLOWS", 6, ring.task(0, 8));
        due("UNDERFLOWS", 4, ring.task(0, 9));
        // from 0 on by an UNDERFLOW: one is FILLED, then two, then two of four, as there are but two WINDOWS
        ring = Rings.good(1, "windows 2;" + DOWN + "task f 9;");
        ring.run(10);
        ring.handler(DOUBLE, 4);
        int[] filled = {0, 1, 3, 3, 5};
        int[] fromZero = {0, -1, -2, -2, -4};
        for (int i = 0; i < fromZero.length; i++) {
            ring.run(1);
            task(ring, 0, 7, fromZero[i]);
            task(ring, 0, 11, filled[i]);
        }
        task(ring, 0, 9, 3);
    }

    private static void askedForTheOneThatComes() {
        Rings.sentence("(Asked for the TASK that calls, returns or comes, whosever FRAMES are SPILLED.)");
        for (int way : new int[] {COUNTER, DOUBLE}) {
            WindowRing ring = Rings.good(2, "windows 4; slice 2;" + DOWN + "task f 5; task f 5;");
            ring.handler(way, 8);
            ring.run(5);
            // TASK 0 calls where TASK 1's eldest is
            Rings.trap(ring, 0, 0, 0, way == COUNTER ? 2 : 1, 1, 4);
            task(ring, 0, 6, way == COUNTER ? 2 : 1);
            task(ring, 0, 7, way == DOUBLE ? 1 : 0);
            task(ring, 1, 6, 1);
            task(ring, 1, 7, 0);
            task(ring, 0, 8, 1);
            task(ring, 1, 8, 0);
            task(ring, 0, 10, 0);
            task(ring, 1, 10, way == COUNTER ? 2 : 1);
        }
    }

    private static void trapsAndMoves() {
        Rings.sentence("Each OVERFLOW, UNDERFLOW is a TRAP, each FRAME that is SPILLED or FILLED a MOVE; COST: TRAPS and MOVES by their PRICES.");
        WindowRing ring = Rings.good(2, "windows 3; slice 2; price 13 4; handler fixed 3;" + DOWN + "task f 4; task f 4;");
        int moves = 0;
        int traps = 0;
        for (int i = 0; i < 20; i++) {
            ring.run(1);
            int more = ring.about(4) - traps;
            for (int k = 0; k < more; k++) {
                moves += ring.trap(k, 2);
            }
            traps += more;
            due("TRAPS", traps, ring.task(0, 8) + ring.task(0, 9) + ring.task(1, 8) + ring.task(1, 9));
            due("MOVES", moves, ring.about(5));
            due("MOVES", moves, ring.task(0, 10) + ring.task(0, 11) + ring.task(1, 10) + ring.task(1, 11));
            due("COST", 13 * traps + 4 * moves, ring.about(6));
        }
        due("all over", -1, ring.about(7));
        due("some", 1, traps > 4 ? 1 : 0);
    }

    private static void turns() {
        Rings.sentence("TASKS take turns, from 0 on: each for so many EVENTS as SLICE tells, or until it is over (DONE, or it FAILED); then the next one by number that is not, round and round.");
        for (int slice : new int[] {1, 2, 3, 5, 8}) {
            WindowRing ring = Rings.good(4, "windows 12; slice " + slice + ";" + DOWN + ENDLESS
                + "task f 3; task f 0; task w 0; task f 6;");
            int[] left = {8, 2, 61, 14};
            int turn = 0;
            int events = 0;
            for (int i = 1; i <= 85; i++) {
                due("about(7) ahead of " + i, turn, ring.about(7));
                due("about(8) ahead of " + i, events, ring.about(8));
                ring.run(1);
                left[turn]--;
                events++;
                if (left[turn] == 0 || events == slice) {
                    events = 0;
                    for (int k = 1; k <= 4; k++) {
                        if (left[(turn + k) % 4] > 0) {
                            turn = (turn + k) % 4;
                            break;
                        }
                    }
                }
            }
            due("all over", -1, ring.about(7));
            due("FAILED", 3, ring.task(2, 1));
        }
    }

    private static void aloneLeft() {
        Rings.sentence("(Whose turn it is when it alone is left, goes on.)");
        WindowRing ring = Rings.good(2, "windows 12; slice 3;" + DOWN + "task f 0; task f 9;");
        ring.run(2);
        for (int i = 0; i < 20; i++) {
            due("its turn", 1, ring.about(7));
            due("EVENTS of this turn", i % 3, ring.about(8));
            due("goes on", 1, ring.run(1));
        }
        due("all over", -1, ring.about(7));
        // from the first, with a turn of one EVENT
        ring = Rings.good(1, "slice 1;" + DOWN + "task f 2;");
        for (int i = 0; i < 6; i++) {
            due("its turn", 0, ring.about(7));
            due("EVENTS of this turn", 0, ring.about(8));
            ring.run(1);
        }
        due("no TRAP by a coming", 0, ring.about(4));
    }

    private static void allOver() {
        Rings.sentence("round and round.");
        WindowRing ring = Rings.good(2, DOWN + ENDLESS + "task f 1; task w 0;");
        due("till all are over", 4 + 61, ring.run(500));
        due("about(7)", -1, ring.about(7));
        due("about(8)", 0, ring.about(8));
        due("no EVENT", 0, ring.run(1));
        due("FREE", 6, ring.about(13));
    }
}
