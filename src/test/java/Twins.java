import java.util.ArrayList;
import java.util.List;
import java.util.function.Consumer;
import java.util.function.Supplier;

/**
 * Whether nothing happens: two objects are made alike, one is asked what must change nothing, and then both must answer
 * alike, whatever they are asked. Each sort of question has twins of its own, as an object is good for 512 calls.
 */
final class Twins {
    private interface Question {
        void ask(WindowRing ring, List<String> answers);
    }

    private Twins() {
    }

    /** That of objects so made it changes nothing. */
    static void unchanged(String what, Supplier<WindowRing> made, Consumer<WindowRing> asked) {
        unchangedBut("nothing", what, made, asked);
    }

    /** That it changes nothing but what a question that begins so is answered. */
    static void unchangedBut(String question, String what, Supplier<WindowRing> made, Consumer<WindowRing> asked) {
        compare(question, what, made, () -> {
            WindowRing twin = made.get();
            asked.accept(twin);
            return twin;
        }, Twins::all, Twins::takenBack, Twins::doneAgain, Twins::firstBox, Twins::secondBox, Twins::tape, Twins::course);
    }

    /** That objects so made are alike in all, but for the BOXES, the TAPE, and what can be taken back or done again. */
    static void alikeNow(String what, Supplier<WindowRing> made, Supplier<WindowRing> other) {
        compare("nothing", what, () -> plain(made.get()), () -> plain(other.get()), Twins::all, Twins::course);
    }

    /** That objects so made are alike, whatever they are asked. */
    static void alike(String what, Supplier<WindowRing> made, Supplier<WindowRing> other) {
        compare("nothing", what, made, other, Twins::all, Twins::takenBack, Twins::doneAgain, Twins::firstBox,
            Twins::secondBox, Twins::tape, Twins::course);
    }

    private static WindowRing plain(WindowRing ring) {
        ring.end(0);
        ring.image(0);
        ring.back(0);
        return ring;
    }

    private static void compare(String ignored, String what, Supplier<WindowRing> made, Supplier<WindowRing> other,
        Question... questions) {
        for (Question question : questions) {
            List<String> answers = new ArrayList<>();
            List<String> others = new ArrayList<>();
            question.ask(made.get(), answers);
            question.ask(other.get(), others);
            for (int i = 0; i < Math.min(answers.size(), others.size()); i++) {
                boolean same = answers.get(i).equals(others.get(i)) || answers.get(i).startsWith(ignored);
                if (!same) {
                    Rings.due(what + ": " + answers.get(i) + ", but " + others.get(i) + "; alike", true, false);
                }
            }
            Rings.due(what + ": as many answers", answers.size(), others.size());
        }
    }

    /** TASKS of each sort, a HANDLER that has guessed, ACTS to take back and to do again, two BOXES, a TAPE, a FAULT. */
    static WindowRing amid() {
        WindowRing ring = Rings.of("windows 5; slice 7; handler counter; price 7 2; def z a = 5 - a; def w n = w(n + 1);"
            + "def f n = if n < 2 then n else f(n - 1) + f(n - 2); task z 3; task w 1; task f 9; task f 12;");
        ring.run(200);
        ring.image(0);
        ring.handler(3, 4);
        ring.run(33);
        ring.image(1);
        ring.price(3, 9);
        ring.run(5);
        ring.slice(4);
        ring.run(2);
        ring.price(1, 1);
        ring.undo();
        ring.undo();
        Rings.feed(ring, "windows 4; windows 5;");
        ring.store();
        Rings.feed(ring, "windows 3; slice 2; def g = 5; task g; task g;");
        return ring;
    }

    /** All TASKS over, an ACT to be done again. */
    static WindowRing over() {
        WindowRing ring = Rings.of("windows 3; slice 2; def w n = w(n); def f n = if n > 0 then f(n - 1) else 7; task f 3; task w 1;");
        ring.run(500);
        ring.image(1);
        ring.slice(9);
        ring.undo();
        return ring;
    }

    /** Nothing was told yet, but something is on the TAPE. */
    static WindowRing fresh() {
        WindowRing ring = new WindowRing();
        Rings.feed(ring, "def g = 5; task g;");
        return ring;
    }

    private static void all(WindowRing ring, List<String> answers) {
        for (int what = 0; what <= 17; what++) {
            answers.add("about(" + what + ") = " + ring.about(what));
        }
        for (int task = 0; task < 4; task++) {
            for (int what = 0; what <= 11; what++) {
                answers.add("task(" + task + ", " + what + ") = " + ring.task(task, what));
            }
            answers.add("result(" + task + ") = " + ring.result(task));
        }
        for (int window = 0; window < ring.about(0); window++) {
            answers.add("window(" + window + ", 0) = " + ring.window(window, 0));
            answers.add("window(" + window + ", 1) = " + ring.window(window, 1));
            answers.add("register(" + window + ", 0) = " + ring.register(window, 0));
        }
        for (int i = 0; i < 20; i++) {
            for (int what = 0; what <= 4; what++) {
                answers.add("trap(" + i + ", " + what + ") = " + ring.trap(i, what));
            }
        }
        answers.add("fault(0) = " + ring.fault(0));
        answers.add("fault(1) = " + ring.fault(1));
    }

    private static void some(WindowRing ring, List<String> answers) {
        for (int what : new int[] {3, 4, 5, 6, 7, 8, 9, 10, 11, 12, 13, 14, 15}) {
            answers.add("about(" + what + ") = " + ring.about(what));
        }
    }

    private static void takenBack(WindowRing ring, List<String> answers) {
        for (int i = 1; i <= 13; i++) {
            answers.add("undo() = " + ring.undo());
            some(ring, answers);
        }
    }

    private static void doneAgain(WindowRing ring, List<String> answers) {
        for (int i = 1; i <= 13; i++) {
            answers.add("redo() = " + ring.redo());
            some(ring, answers);
        }
    }

    private static void firstBox(WindowRing ring, List<String> answers) {
        answers.add("back(0) = " + ring.back(0));
        all(ring, answers);
    }

    private static void secondBox(WindowRing ring, List<String> answers) {
        answers.add("back(1) = " + ring.back(1));
        all(ring, answers);
    }

    private static void tape(WindowRing ring, List<String> answers) {
        answers.add("store() = " + ring.store());
        all(ring, answers);
    }

    /** How it goes on; where FRAMES are, and prices that cannot be asked for, come to light so. */
    private static void course(WindowRing ring, List<String> answers) {
        for (int frame = 1; frame <= 12; frame++) {
            for (int task = 0; task < 4; task++) {
                answers.add("where(" + task + ", " + frame + ") = " + ring.where(task, frame));
                answers.add("value(" + task + ", " + frame + ", 0) = " + ring.value(task, frame, 0));
            }
        }
        answers.add("would(2, 0, 0) = " + ring.would(2, 0, 0));
        answers.add("bestSlice(1) = " + ring.bestSlice(1));
        for (int i = 0; i < 10; i++) {
            answers.add("run(9) = " + ring.run(9));
            some(ring, answers);
        }
        answers.add("run(500) = " + ring.run(500));
        some(ring, answers);
    }
}
