import java.util.List;
import java.util.function.Consumer;
import java.util.function.Supplier;

/** Promises 28 to 32, sentence by sentence: the latest TRAPS, whether all is as it must be, BOXES, and what there is about. */
public final class KeptEdgesTest {
    private static final String DOWN = "def f n = if n > 0 then f(n - 1) else 7; ";
    private static final int[] FAR = {Integer.MIN_VALUE, -1000, -2, -1, 20, 21, 1000, Integer.MAX_VALUE};

    private KeptEdgesTest() {
    }

    public static void main(String[] args) {
        latestTraps();
        whatATrapWas();
        trapOfNoneSuch();
        trapsTakenBack();
        lawHolds();
        allThatThereIs();
        imageOfNoneSuch();
        imageIsNoAct();
        allAsItWasKept();
        nothingToTakeBack();
        nothingWasKept();
        boxesApart();
        aboutWhat();
        aboutTurns();
        aboutWindowUsed();
        aboutActs();
        aboutTape();
        aboutAnotherWhat();
        Rings.finish("KeptEdgesTest");
    }

    private static void due(String what, long want, long got) {
        Rings.due(what, want, got);
    }

    private static void due(String what, boolean want, boolean got) {
        Rings.due(what, want, got);
    }

    private static void latestTraps() {
        Rings.sentence("The latest TRAPS (the i-th latest; 0 .. 19)");
        // in two WINDOWS each CALL from the third FRAME on is an OVERFLOW: the EVENT with as many ahead of it
        WindowRing ring = Rings.of("windows 2;" + DOWN + "task f 45;");
        ring.run(2);
        for (int traps = 0; traps <= 43; traps++) {
            due("TRAPS", traps, ring.about(4));
            for (int i : new int[] {0, 1, 18, 19, 20}) {
                due("trap(" + i + ", 4) of " + traps, i < traps && i < 20 ? 1 + traps - i : -1, ring.trap(i, 4));
            }
            ring.run(1);
        }
        ring = Rings.of("windows 2;" + DOWN + "task f 59;");
        for (int traps : new int[] {19, 20, 21, 40, 41, 58}) {
            ring.run(traps + 2 - ring.about(3));
            due("TRAPS", traps, ring.about(4));
            for (int i = 0; i <= 20; i++) {
                due("trap(" + i + ", 4) of " + traps, i < traps && i < 20 ? 1 + traps - i : -1, ring.trap(i, 4));
            }
        }
    }

    private static void whatATrapWas() {
        Rings.sentence("what 0: 0 an OVERFLOW, 1 an UNDERFLOW, 2: that of a coming, 1: the TASK for which it was, 2: MOVES, 3: whose FRAMES were moved, 4: the EVENT (how many there were ahead of it).");
        // TASK 1 begins where TASK 0 is; TASK 0 comes, spilling TASK 1, and calls; so TASK 1, and returns
        WindowRing ring = Rings.of("windows 2; slice 2; handler fixed 2;" + DOWN + "task f 3; task f 1;");
        ring.run(2);
        Rings.trap(ring, 0, -1, -1, -1, -1, -1);
        ring.run(1);
        Rings.trap(ring, 0, 0, 1, 2, 0, 2);
        Rings.trap(ring, 1, -1, -1, -1, -1, -1);
        ring.run(2);
        Rings.trap(ring, 0, 2, 0, 1, 0, 4);
        Rings.trap(ring, 1, 0, 0, 2, 1, 4);
        Rings.trap(ring, 2, 0, 1, 2, 0, 2);
        ring.run(2);
        Rings.trap(ring, 0, 1, 1, 1, 1, 6);
        Rings.trap(ring, 1, 2, 1, 1, 1, 6);
        Rings.trap(ring, 2, 0, 1, 2, 0, 6);
        Rings.trap(ring, 3, 0, 0, 1, 0, 5);
        due("what 5", -1, ring.trap(0, 5));
    }

    private static void trapOfNoneSuch() {
        Rings.sentence("NONE if there is none such, or for another what.");
        WindowRing ring = Rings.of("windows 2;" + DOWN + "task f 40;");
        for (int what = 0; what < 5; what++) {
            due("no TRAP", -1, ring.trap(0, what));
        }
        ring.run(3);
        for (int what = 0; what < 5; what++) {
            due("one TRAP", true, ring.trap(0, what) >= 0);
            due("no second", -1, ring.trap(1, what));
            due("-1", -1, ring.trap(-1, what));
        }
        ring.run(30);
        for (int what = 0; what < 5; what++) {
            due("the twentieth", true, ring.trap(19, what) >= 0);
            due("the twenty-first", -1, ring.trap(20, what));
            due("-1", -1, ring.trap(-1, what));
        }
        for (int i = 0; i < 20; i++) {
            due("another what", -1, ring.trap(i, 5));
            due("another what", -1, ring.trap(i, -1));
        }
        for (int far : FAR) {
            due("none such", -1, ring.trap(far, 0));
            due("another what", -1, ring.trap(0, far));
        }
        Twins.unchanged("trap", Twins::amid, twin -> twin.trap(0, 0));
    }

    private static void trapsTakenBack() {
        Rings.sentence("The latest TRAPS (the i-th latest; 0 .. 19)");
        WindowRing ring = Rings.of("windows 2;" + DOWN + "task f 59;");
        ring.run(23);
        ring.run(30);
        due("TRAPS", 51, ring.about(4));
        due("the twentieth", 33, ring.trap(19, 4));
        ring.undo();
        due("TRAPS", 21, ring.about(4));
        due("the latest", 22, ring.trap(0, 4));
        due("the twentieth", 3, ring.trap(19, 4));
        ring.redo();
        due("the latest", 52, ring.trap(0, 4));
        due("the twentieth", 33, ring.trap(19, 4));
        // what is tried leaves them
        ring.undo();
        ring.best(0);
        ring.bestSlice(0);
        ring.alone(0, 2, 0, 0);
        due("the latest", 22, ring.trap(0, 4));
        due("the twentieth", 3, ring.trap(19, 4));
    }

    private static void lawHolds() {
        Rings.sentence("Whether all is as it must be: how many TASKS that are DONE came to another result than plain() tells (where it tells one), and WINDOWS whose TASK has not that FRAME there.");
        WindowRing ring = Rings.of("windows 3; slice 2; handler double 3; def w = w(); def b n = if n < 2 then n else b(n - 1) + b(n - 2);"
            + DOWN + "task b 5; task w; task f 9; task b 16;");
        for (int i = 0; i < 60; i++) {
            due("law", 0, ring.law());
            ring.run(i < 40 ? 3 : 500);
        }
        due("all over", -1, ring.about(7));
        // b(16) takes more than 2,000 EVENTS: plain() tells nothing of it
        due("DONE", 987, ring.result(3));
        due("plain tells none", 0, ring.plain(1, 16, 0, 0, 0));
        due("law", 0, ring.law());
        due("a TASK that came to plain()", ring.plain(1, 5, 0, 0, 0), ring.result(0));
        Twins.unchanged("law", Twins::amid, WindowRing::law);
    }

    /** What is done behind an image, or ahead of one. */
    private static List<Consumer<WindowRing>> changes() {
        return List.of(ring -> ring.run(1), ring -> ring.run(500), ring -> ring.handler(1, 7), ring -> ring.handler(3, 4),
            ring -> ring.price(50, 60), ring -> ring.slice(33), ring -> ring.again(0), ring -> ring.again(1), WindowRing::undo,
            WindowRing::redo, ring -> ring.image(1));
    }

    private static void allThatThereIs() {
        Rings.sentence("All that there is (but the TAPE) is kept in a BOX (0, 1): EVENTS so far");
        for (int box = 0; box < 2; box++) {
            WindowRing ring = Rings.of("windows 3; slice 4;" + DOWN + "task f 9; task f 9;");
            due("image(" + box + ")", 0, ring.image(box));
            ring.run(7);
            due("image(" + box + ")", 7, ring.image(box));
            ring.run(500);
            due("image(" + box + ")", 40, ring.image(box));
            ring.again(0);
            ring.run(3);
            due("image(" + box + ")", 43, ring.image(box));
        }
        due("none so far", 0, new WindowRing().image(0));
        // the TAPE is as it is now
        WindowRing ring = Twins.amid();
        ring.image(0);
        ring.end(5);
        ring.back(0);
        due("about(16)", 5, ring.about(16));
        ring.end(0);
        ring.image(1);
        Rings.feed(ring, "def g = 1; task g;");
        ring.back(1);
        due("about(16)", 18, ring.about(16));
        due("store", 1, ring.store());
    }

    private static void imageOfNoneSuch() {
        Rings.sentence("EVENTS so far; NONE if there is none such.");
        for (int box : new int[] {-1, 2, 3, -2, Integer.MIN_VALUE, Integer.MAX_VALUE}) {
            due("image(" + box + ")", -1, Twins.amid().image(box));
            due("image(" + box + ")", -1, new WindowRing().image(box));
            Twins.unchanged("image(" + box + ")", Twins::amid, ring -> ring.image(box));
            Twins.unchanged("image(" + box + ")", Twins::fresh, ring -> ring.image(box));
        }
    }

    private static void imageIsNoAct() {
        Rings.sentence("All that there is (but the TAPE) is kept in a BOX (0, 1)");
        // there is as there was, but for the BOX
        for (int box = 0; box < 2; box++) {
            int number = box;
            Twins.alikeNow("image(" + box + ")", Twins::amid, () -> {
                WindowRing ring = Twins.amid();
                ring.image(number);
                return ring;
            });
            WindowRing ring = Twins.amid();
            ring.image(box);
            due("ACTS", 6, ring.about(14));
            due("to be done again", 2, ring.about(15));
            due("redo", true, ring.redo());
            due("undo", true, ring.undo());
        }
        // a second image takes the first one's place
        WindowRing ring = Rings.of(DOWN + "task f 9;");
        ring.run(3);
        ring.image(0);
        ring.run(4);
        ring.image(0);
        ring.run(5);
        due("the second", 7, ring.back(0));
        due("FRAMES", 7, ring.task(0, 2));
    }

    private static void allAsItWasKept() {
        Rings.sentence("All is as it was kept (nothing can be taken back, or done again then): EVENTS so far");
        List<Consumer<WindowRing>> changes = changes();
        for (int i = 0; i < changes.size(); i++) {
            int number = i;
            Twins.alikeNow("back(0) behind number " + i, Twins::amid, () -> {
                WindowRing ring = Twins.amid();
                int events = ring.about(3);
                due("image", events, ring.image(0));
                changes.get(number).accept(ring);
                due("back", events, ring.back(0));
                return ring;
            });
        }
        // and again, as often as one likes
        WindowRing ring = Twins.amid();
        due("back(0)", 200, ring.back(0));
        ring.run(9);
        due("back(0)", 200, ring.back(0));
        due("about(3)", 200, ring.about(3));
        due("back(1)", 233, ring.back(1));
        due("back(0)", 200, ring.back(0));
    }

    private static void nothingToTakeBack() {
        Rings.sentence("(nothing can be taken back, or done again then)");
        WindowRing ring = Twins.amid();
        due("ACTS", 6, ring.about(14));
        due("to be done again", 2, ring.about(15));
        ring.back(0);
        due("ACTS", 0, ring.about(14));
        due("to be done again", 0, ring.about(15));
        due("undo", false, ring.undo());
        due("redo", false, ring.redo());
        due("as it was kept", 200, ring.about(3));
        ring.run(2);
        due("another ACT", 1, ring.about(14));
        due("undo", true, ring.undo());
        due("EVENTS", 200, ring.about(3));
        due("undo", false, ring.undo());
        // what was kept is as it was, whatever came behind
        due("redo", true, ring.redo());
        due("back(0)", 200, ring.back(0));
        for (int i = 1; i <= 13; i++) {
            ring.run(1);
        }
        due("twelve", 12, ring.about(14));
        due("back(0)", 200, ring.back(0));
    }

    private static void nothingWasKept() {
        Rings.sentence("NONE, doing nothing, if nothing was, or there is no such BOX.");
        Supplier<WindowRing> without = () -> {
            WindowRing ring = Rings.of("windows 3;" + DOWN + "task f 9; task f 3;");
            ring.run(7);
            ring.slice(3);
            ring.undo();
            return ring;
        };
        for (int box : new int[] {0, 1, -1, 2, 3, Integer.MIN_VALUE, Integer.MAX_VALUE}) {
            due("back(" + box + ")", -1, without.get().back(box));
            due("back(" + box + ")", -1, new WindowRing().back(box));
            Twins.unchanged("back(" + box + ")", without, ring -> ring.back(box));
            Twins.unchanged("back(" + box + ")", Twins::fresh, ring -> ring.back(box));
        }
        for (int box : new int[] {-1, 2, 3, Integer.MIN_VALUE, Integer.MAX_VALUE}) {
            due("back(" + box + ")", -1, Twins.amid().back(box));
            Twins.unchanged("back(" + box + ")", Twins::amid, ring -> ring.back(box));
        }
        // one is filled, the other is not
        WindowRing ring = without.get();
        ring.image(1);
        due("back(0)", -1, ring.back(0));
        due("back(1)", 7, ring.back(1));
        ring = without.get();
        ring.image(0);
        due("back(1)", -1, ring.back(1));
        due("back(0)", 7, ring.back(0));
        // a STORE empties them, one with a FAULT does not
        Rings.feed(ring, "windows 99;");
        ring.store();
        due("back(0)", 7, ring.back(0));
        Rings.feed(ring, "windows 9;");
        ring.store();
        due("back(0)", -1, ring.back(0));
    }

    private static void boxesApart() {
        Rings.sentence("is kept in a BOX (0, 1)");
        WindowRing ring = Rings.of("windows 3; slice 4; handler counter;" + DOWN + "task f 9; task f 9;");
        ring.run(5);
        ring.image(0);
        ring.handler(3, 2);
        ring.price(1, 2);
        ring.slice(9);
        ring.run(10);
        ring.image(1);
        ring.run(500);
        // EVENTS, the HANDLER, its n, SLICE, the prices
        int[] first = {5, 2, 0, 4, 10, 1};
        int[] second = {15, 3, 2, 9, 1, 2};
        for (int i = 0; i < 3; i++) {
            kept(ring, 0, first);
            kept(ring, 1, second);
        }
        ring.run(3);
        ring.image(0);
        due("the other one stays", 15, ring.back(1));
        due("the new one", 18, ring.back(0));
    }

    private static void kept(WindowRing ring, int box, int[] due) {
        due("back(" + box + ")", due[0], ring.back(box));
        due("EVENTS", due[0], ring.about(3));
        due("HANDLER", due[1], ring.about(10));
        due("its n", due[2], ring.about(11));
        due("SLICE", due[3], ring.about(9));
        due("COST", ring.about(4) * due[4] + ring.about(5) * due[5], ring.about(6));
        due("law", 0, ring.law());
    }

    private static void aboutWhat() {
        Rings.sentence("What 0: WINDOWS, 1: FUNCTIONS, 2: TASKS, 3: EVENTS, 4: TRAPS, 5: MOVES, 6: COST");
        WindowRing ring = Rings.of("windows 2; slice 3; price 5 2; handler fixed 2; def z = 1; def y = 2;" + DOWN + "task f 3; task z; task f 1;");
        int[] first = {2, 3, 3, 0, 0, 0, 0, 0, 0, 3, 1, 2, -1, 2, 0, 0, 0, 8};
        abouts(ring, first);
        // three FRAMES of TASK 0: the third spilled the first
        ring.run(3);
        int[] third = {2, 3, 3, 3, 1, 1, 7, 1, 0, 3, 1, 2, 0, 0, 1, 0, 0, 8};
        abouts(ring, third);
        // z began in WINDOW 1, spilling both of TASK 0
        ring.run(1);
        int[] fourth = {2, 3, 3, 4, 2, 3, 16, 1, 1, 3, 1, 2, 1, 1, 2, 0, 0, 8};
        abouts(ring, fourth);
        ring.run(1);
        int[] fifth = {2, 3, 3, 5, 2, 3, 16, 2, 0, 3, 1, 2, 1, 2, 3, 0, 0, 8};
        abouts(ring, fifth);
        ring.undo();
        fourth[15] = 1;
        abouts(ring, fourth);
    }

    private static void abouts(WindowRing ring, int[] due) {
        for (int what = 0; what < due.length; what++) {
            due("about(" + what + ") behind " + due[3], due[what], ring.about(what));
        }
    }

    private static void aboutTurns() {
        Rings.sentence("7: whose turn it is (NONE: all are over), 8: EVENTS of this turn so far, 9: SLICE, 10: the HANDLER, 11: its n");
        WindowRing ring = Rings.of("windows 12; slice 2;" + DOWN + "task f 0; task f 1;");
        int[] whose = {0, 0, 1, 1, 1, 1, -1};
        int[] events = {0, 1, 0, 1, 0, 1, 0};
        for (int i = 0; i < whose.length; i++) {
            due("about(7) behind " + i, whose[i], ring.about(7));
            due("about(8) behind " + i, events[i], ring.about(8));
            ring.run(1);
        }
        due("no TASKS", -1, Rings.of(DOWN).about(7));
        due("no TASKS", 0, Rings.of(DOWN).about(8));
        ring = Rings.of("slice 50; handler double 16;" + DOWN + "task f 40;");
        ring.run(49);
        due("the most", 49, ring.about(8));
        ring.run(1);
        due("the next turn", 0, ring.about(8));
        due("SLICE", 50, ring.about(9));
        due("the HANDLER", 3, ring.about(10));
        due("its n", 16, ring.about(11));
    }

    private static void aboutWindowUsed() {
        Rings.sentence("12: the WINDOW used by the latest EVENT (NONE), 13: FREE WINDOWS");
        WindowRing ring = Rings.of("windows 3;" + DOWN + "task f 4; task f 0;");
        due("none", -1, ring.about(12));
        due("all FREE", 3, ring.about(13));
        // begin, four CALLS, three RETURNS: the caller's; TASK 1 behind it, and over there; TASK 0 again
        int[] used = {0, 1, 2, 0, 1, 0, 2, 2, 0, 0, 2, 2};
        int[] free = {2, 1, 0, 0, 0, 1, 2, 2, 1, 2, 2, 3};
        for (int i = 0; i < used.length; i++) {
            ring.run(1);
            due("about(12) behind " + (i + 1), used[i], ring.about(12));
            due("about(13) behind " + (i + 1), free[i], ring.about(13));
        }
        due("all over", -1, ring.about(7));
        for (int windows = 2; windows <= 12; windows++) {
            due("all FREE", windows, Rings.of("windows " + windows + ";").about(13));
            ring = Rings.of("windows " + windows + ";" + DOWN + "task f 40;");
            ring.run(windows - 1);
            due("one FREE", 1, ring.about(13));
            ring.run(1);
            due("none FREE", 0, ring.about(13));
            due("the last", windows - 1, ring.about(12));
        }
    }

    private static void aboutActs() {
        Rings.sentence("14: ACTS that can be taken back, 15: done again");
        WindowRing ring = Rings.of(DOWN + "task f 9;");
        for (int i = 0; i <= 12; i++) {
            due("about(14)", i, ring.about(14));
            due("about(15)", 0, ring.about(15));
            ring.slice(i + 1);
        }
        for (int i = 0; i <= 12; i++) {
            due("about(14)", 12 - i, ring.about(14));
            due("about(15)", i, ring.about(15));
            ring.undo();
        }
        due("about(14)", 0, ring.about(14));
        due("about(15)", 12, ring.about(15));
        ring.redo();
        due("about(14)", 1, ring.about(14));
        due("about(15)", 11, ring.about(15));
    }

    private static void aboutTape() {
        Rings.sentence("16: bytes on the TAPE, 17: units.");
        WindowRing ring = new WindowRing();
        due("none", 0, ring.about(16));
        ring.feed(0, 0, 0, 0, 0);
        due("twenty", 20, ring.about(16));
        ring.end(3);
        due("three", 3, ring.about(16));
        ring.end(0);
        for (int i = 1; i <= 51; i++) {
            ring.feed(0, 0, 0, 0, 0);
        }
        due("a thousand", 1000, ring.about(16));
        due("no units", 0, ring.about(17));
        due("eighty", 80, Rings.of("def f = 1" + "+1".repeat(79) + ";").about(17));
        due("one", 1, Rings.of("def f = 1;").about(17));
    }

    private static void aboutAnotherWhat() {
        Rings.sentence("17: units. NONE for another what.");
        for (WindowRing ring : new WindowRing[] {new WindowRing(), Twins.amid(), Twins.over()}) {
            due("about(18)", -1, ring.about(18));
            due("about(-1)", -1, ring.about(-1));
            due("about(17)", true, ring.about(17) >= 0);
            for (int far : FAR) {
                due("about(" + far + ")", -1, ring.about(far));
            }
        }
    }
}
