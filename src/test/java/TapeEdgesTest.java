import java.util.List;
import java.util.function.Supplier;

/** Promises 1 to 5, sentence by sentence: a new object, the TAPE, a STORE, its FAULT. */
public final class TapeEdgesTest {
    private static final int BLANKS = 0x20202020;
    private static final int[] FAR = {Integer.MIN_VALUE, Integer.MIN_VALUE + 1, -1000, -2, -1, 20, 50, 61, 1000, 65536,
        Integer.MAX_VALUE - 1, Integer.MAX_VALUE};

    private TapeEdgesTest() {
    }

    public static void main(String[] args) {
        noFunctionsNoTasks();
        newActs();
        newLooks();
        newTrials();
        whateverIsAsked();
        twentyBytes();
        howManyThereAre();
        moreThanAThousand();
        firstBytesAlone();
        notSoMany();
        howManyTasks();
        tapeIsEmptyThen();
        allAnew();
        oneBehindAnother();
        fiveHundredCalls();
        allStays();
        faultOfTheLatest();
        faultAheadOfAny();
        faultForAnotherWhat();
        Rings.finish("TapeEdgesTest");
    }

    private static void due(String what, long want, long got) {
        Rings.due(what, want, got);
    }

    private static void due(String what, boolean want, boolean got) {
        Rings.due(what, want, got);
    }

    private static int feedBlanks(WindowRing ring) {
        return ring.feed(BLANKS, BLANKS, BLANKS, BLANKS, BLANKS);
    }

    private static void noFunctionsNoTasks() {
        Rings.sentence("`WindowRing()`: No FUNCTIONS, no TASKS.");
        WindowRing ring = new WindowRing();
        int[] abouts = {6, 0, 0, 0, 0, 0, 0, -1, 0, 8, 0, 0, -1, 6, 0, 0, 0, 0};
        for (int what = 0; what < abouts.length; what++) {
            due("about(" + what + ")", abouts[what], ring.about(what));
        }
        due("fault(0)", 0, ring.fault(0));
        due("fault(1)", -1, ring.fault(1));
        for (int i = 0; i < 4; i++) {
            due("task", -100, ring.task(i, 0));
            due("task", -100, ring.task(i, 1));
            due("result", 0, ring.result(i));
            due("again", false, ring.again(i));
        }
        // it is as behind a store() of no text
        Twins.unchangedBut("store()", "store()", WindowRing::new, WindowRing::store);
    }

    private static void newActs() {
        Rings.sentence("`WindowRing()`: No FUNCTIONS, no TASKS.");
        due("feed", 20, feedBlanks(new WindowRing()));
        due("end(0)", 0, new WindowRing().end(0));
        due("end(1)", -1, new WindowRing().end(1));
        due("store", 0, new WindowRing().store());
        due("run(1)", 0, new WindowRing().run(1));
        due("run(500)", 0, new WindowRing().run(500));
        due("run(0)", -1, new WindowRing().run(0));
        due("run(501)", -1, new WindowRing().run(501));
        due("handler", true, new WindowRing().handler(3, 16));
        due("handler", false, new WindowRing().handler(3, 17));
        due("price", 0, new WindowRing().price(99, 99));
        due("price", -1, new WindowRing().price(100, 99));
        due("slice", 8, new WindowRing().slice(50));
        due("slice", -1, new WindowRing().slice(51));
        due("again", false, new WindowRing().again(0));
        due("undo", false, new WindowRing().undo());
        due("redo", false, new WindowRing().redo());
        WindowRing ring = new WindowRing();
        due("no EVENT, no ACT", 0, ring.run(9));
        due("about(14)", 0, ring.about(14));
        ring.handler(3, 5);
        ring.slice(7);
        ring.price(1, 2);
        due("ACTS", 3, ring.about(14));
        due("undo", true, ring.undo());
        due("undo", true, ring.undo());
        due("SLICE", 8, ring.about(9));
        due("undo", true, ring.undo());
        due("HANDLER", 0, ring.about(10));
        due("undo", false, ring.undo());
        due("redo", true, ring.redo());
        due("HANDLER", 3, ring.about(10));
    }

    private static void newLooks() {
        Rings.sentence("`WindowRing()`: No FUNCTIONS, no TASKS.");
        WindowRing ring = new WindowRing();
        for (int window = 0; window < 6; window++) {
            due("window", -1, ring.window(window, 0));
            due("window", -1, ring.window(window, 1));
            due("window", -2, ring.window(window, 2));
            due("register", 0, ring.register(window, 0));
        }
        due("window", -2, ring.window(6, 0));
        due("window", -2, ring.window(-1, 0));
        due("register", 0, ring.register(6, 0));
        due("value", 0, ring.value(0, 1, 0));
        due("where", -1, ring.where(0, 1));
        for (int i = 0; i < 20; i++) {
            for (int what = 0; what < 5; what++) {
                due("trap", -1, ring.trap(i, what));
            }
        }
        due("law", 0, ring.law());
        due("back", -1, ring.back(0));
        due("back", -1, ring.back(1));
        due("image", 0, ring.image(0));
        due("image", 0, ring.image(1));
        due("image", -1, ring.image(2));
        due("back", 0, ring.back(0));
        due("back", 0, ring.back(1));
    }

    private static void newTrials() {
        Rings.sentence("`WindowRing()`: No FUNCTIONS, no TASKS.");
        WindowRing ring = new WindowRing();
        due("plain", 0, ring.plain(0, 1, 2, 3, 4));
        for (int what = 0; what < 3; what++) {
            due("profile", -1, ring.profile(0, 1, 2, 3, 4, what));
            due("alone", -1, ring.alone(0, 0, 0, what));
        }
        due("depths", -1, ring.depths(0, 1));
        due("least", -1, ring.least(0, 2));
        due("suits", -1, ring.suits(0));
        for (int what = 0; what < 4; what++) {
            for (int way = 0; way < 4; way++) {
                due("would", 0, ring.would(way, 1, what));
            }
        }
        due("would", -1, ring.would(0, 0, 4));
        due("would", -1, ring.would(4, 1, 0));
        due("best", 0, ring.best(0));
        due("best", 0, ring.best(1));
        due("best", -1, ring.best(2));
        due("bestSlice", 1, ring.bestSlice(0));
        due("bestSlice", 0, ring.bestSlice(1));
        due("bestSlice", -1, ring.bestSlice(2));
    }

    /** No call fails, whatever it is asked, on a new object and on one amid its work. */
    private static void whateverIsAsked() {
        Rings.sentence("NONE = -1");
        for (int a : FAR) {
            for (WindowRing ring : new WindowRing[] {new WindowRing(), Twins.amid(), Twins.over()}) {
                for (int b : FAR) {
                    due("task", -100, ring.task(a, b));
                    due("value", 0, ring.value(a, b, a) + ring.value(0, a, b) + ring.value(2, 1, b));
                    due("register", 0, ring.register(a, b) + ring.register(0, a));
                    due("trap", -1, ring.trap(a, b));
                    due("window", -2, ring.window(a, b));
                    due("where", -1, ring.where(a, b));
                    due("depths", -1, ring.depths(a, b));
                    due("least", -1, ring.least(a, b));
                    due("alone", -1, ring.alone(a, b, a, b));
                    due("would", -1, ring.would(a, b, a));
                    due("profile", -1, ring.profile(a, b, a, b, a, b));
                    due("plain", 0, ring.plain(a, b, a, b, a));
                }
                due("suits", -1, ring.suits(a));
                due("result", 0, ring.result(a));
                due("about", -1, ring.about(a));
                due("fault", -1, ring.fault(a));
                due("best", -1, ring.best(a));
                due("bestSlice", -1, ring.bestSlice(a));
                due("image", -1, ring.image(a));
                due("back", -1, ring.back(a));
                due("law", 0, ring.law());
            }
        }
        // numbers that a FUNCTION may have, but no STORE may tell
        WindowRing ring = Twins.amid();
        for (int a : FAR) {
            due("z", 5 - a, ring.plain(0, a, a, a, a));
            due("f", a < 2 ? a : 0, ring.plain(2, a, a, a, a));
        }
    }

    private static void twentyBytes() {
        Rings.sentence("Twenty bytes come behind those on the TAPE, of each number the highest first");
        for (int place = 0; place < 20; place++) {
            int[] numbers = {BLANKS, BLANKS, BLANKS, BLANKS, BLANKS};
            int shift = 24 - 8 * (place % 4);
            numbers[place / 4] = BLANKS & ~(255 << shift) | 0xfe << shift;
            WindowRing ring = new WindowRing();
            ring.feed(numbers[0], numbers[1], numbers[2], numbers[3], numbers[4]);
            ring.store();
            due("the FAULT of byte " + place, 1, ring.fault(0));
            due("its place", place, ring.fault(1));
            // and behind others
            feedBlanks(ring);
            ring.end(13);
            ring.feed(numbers[0], numbers[1], numbers[2], numbers[3], numbers[4]);
            ring.store();
            due("behind thirteen", 13 + place, ring.fault(1));
        }
        WindowRing ring = new WindowRing();
        ring.feed(0x77696e64, 0x6f777320, 0x31313b73, 0x6c696365, 0x2034393b);
        due("windows 11;slice 49;", 0, ring.store());
        due("WINDOWS", 11, ring.about(0));
        due("SLICE", 49, ring.about(9));
    }

    private static void howManyThereAre() {
        Rings.sentence("how many there are");
        WindowRing ring = new WindowRing();
        for (int i = 1; i <= 50; i++) {
            due("feed", 20 * i, ring.feed(i, -i, 0, Integer.MIN_VALUE, Integer.MAX_VALUE));
            due("about(16)", 20 * i, ring.about(16));
        }
        ring.end(7);
        due("behind seven", 27, feedBlanks(ring));
        ring.end(0);
        due("behind none", 20, feedBlanks(ring));
    }

    private static void moreThanAThousand() {
        Rings.sentence("NONE, and nothing comes, if there would be more than 1,000.");
        for (int bytes : new int[] {979, 980, 981, 990, 999, 1000}) {
            due("behind " + bytes, bytes <= 980 ? bytes + 20 : -1, filled(bytes).feed(0x21212121, 0, 0, 0, 0));
            WindowRing ring = filled(bytes);
            ring.feed(0x21212121, 0, 0, 0, 0);
            due("bytes", bytes <= 980 ? bytes + 20 : bytes, ring.about(16));
            if (bytes > 980) {
                Twins.unchanged("feed behind " + bytes, () -> filled(bytes), twin -> twin.feed(0x21212121, 1, 2, 3, 4));
            } else {
                ring.store();
                due("they came", bytes, ring.fault(1));
            }
        }
    }

    private static WindowRing filled(int bytes) {
        WindowRing ring = new WindowRing();
        Rings.feed(ring, "slice 3;" + " ".repeat(bytes - 8));
        return ring;
    }

    private static void firstBytesAlone() {
        Rings.sentence("The TAPE has its first n bytes alone: n");
        WindowRing ring = new WindowRing();
        for (int bytes = 20; bytes >= 0; bytes--) {
            ring.end(0);
            Rings.feed(ring, "slice 12;slice 12;!!");
            due("end(" + bytes + ")", bytes, ring.end(bytes));
            due("about(16)", bytes, ring.about(16));
            int code = bytes == 0 || bytes == 9 ? 0 : bytes < 9 ? 1 : 3;
            due("store of " + bytes, code == 0 ? 0 : -1, ring.store());
            due("its FAULT", bytes > 9 && bytes < 14 ? 1 : code, ring.fault(0));
        }
        // within a number, and within a word
        Rings.feed(ring, "windows 12;");
        ring.end(9);
        due("windows 1", -1, ring.store());
        due("its FAULT", 2, ring.fault(0));
        Rings.feed(ring, "def f = 99999;");
        ring.end(12);
        due("9999 without ;", -1, ring.store());
        due("its FAULT", 1, ring.fault(0));
        due("its place", 12, ring.fault(1));
        Rings.feed(ring, "windows");
        ring.end(4);
        due("wind", -1, ring.store());
        Rings.feed(ring, "def f task = 1;");
        ring.end(7);
        due("def f t", -1, ring.store());
        due("the place of its end", 7, ring.fault(1));
        // the bytes that were cut off are gone
        Rings.feed(ring, "slice 12;slice 13;");
        ring.end(9);
        due("end(10)", -1, ring.end(10));
        due("end(18)", -1, ring.end(18));
        Rings.feed(ring, "     ");
        due("nine and five", 14, ring.about(16));
        due("store", 0, ring.store());
        due("SLICE", 12, ring.about(9));
    }

    private static void notSoMany() {
        Rings.sentence("NONE, and nothing happens, if it has not so many, or n is below 0.");
        WindowRing ring = new WindowRing();
        due("end(0)", 0, ring.end(0));
        due("end(1)", -1, ring.end(1));
        due("end(-1)", -1, ring.end(-1));
        feedBlanks(ring);
        due("end(20)", 20, ring.end(20));
        due("end(21)", -1, ring.end(21));
        due("about(16)", 20, ring.about(16));
        due("end(19)", 19, ring.end(19));
        due("end(20)", -1, ring.end(20));
        due("about(16)", 19, ring.about(16));
        for (int n : new int[] {-1, -20, Integer.MIN_VALUE, Integer.MAX_VALUE, 1000, 1001}) {
            due("end(" + n + ")", -1, Twins.amid().end(n));
            Twins.unchanged("end(" + n + ")", Twins::amid, twin -> twin.end(n));
        }
        int bytes = Twins.amid().about(16);
        Twins.unchanged("end(" + bytes + ")", Twins::amid, twin -> twin.end(bytes));
        Twins.unchanged("end(" + (bytes + 1) + ")", Twins::amid, twin -> twin.end(bytes + 1));
    }

    private static void howManyTasks() {
        Rings.sentence("how many TASKS");
        for (int tasks = 0; tasks <= 4; tasks++) {
            WindowRing ring = new WindowRing();
            Rings.feed(ring, "def f = 1;" + "task f;".repeat(tasks));
            due("store", tasks, ring.store());
            due("about(2)", tasks, ring.about(2));
        }
    }

    private static void tapeIsEmptyThen() {
        Rings.sentence("The TAPE (empty then) is the STORE");
        WindowRing ring = new WindowRing();
        Rings.feed(ring, "slice 3;");
        due("store", 0, ring.store());
        due("about(16)", 0, ring.about(16));
        due("feed", 20, feedBlanks(ring));
        ring.end(0);
        due("an empty one", 0, ring.store());
        due("SLICE", 8, ring.about(9));
        Rings.feed(ring, "slice 99;");
        due("with a FAULT", -1, ring.store());
        due("about(16)", 0, ring.about(16));
        due("end(1)", -1, ring.end(1));
        due("the empty one again", 0, ring.store());
    }

    private static void allAnew() {
        Rings.sentence("(all anew, no ACTS are kept; BOXES are empty)");
        // whatever was there: it is as on a new object
        String text = "windows 4; def f n = if n > 0 then f(n - 1) else 7; task f 5; task f 2;";
        // the oldest ACT that is kept, and a BOX, lie behind some EVENTS, with all TASKS under way
        Supplier<WindowRing> manyActs = () -> {
            WindowRing ring = Rings.of("windows 5; slice 3; handler double 6; price 4 4; def f n = if n > 0 then f(n - 1) else 8;"
                + "task f 30; task f 30;");
            ring.run(22);
            ring.image(0);
            for (int i = 1; i <= 14; i++) {
                ring.run(1);
            }
            return ring;
        };
        Supplier<WindowRing> fromABox = () -> {
            WindowRing ring = manyActs.get();
            ring.back(0);
            return ring;
        };
        for (Supplier<WindowRing> made : List.<Supplier<WindowRing>>of(Twins::amid, Twins::over, WindowRing::new, manyActs, fromABox)) {
            Twins.alike("behind a STORE", () -> Rings.of(text), () -> {
                WindowRing ring = made.get();
                ring.end(0);
                Rings.feed(ring, text);
                due("store", 2, ring.store());
                return ring;
            });
        }
        WindowRing ring = Twins.amid();
        due("store", 2, ring.store());
        due("undo", false, ring.undo());
        due("redo", false, ring.redo());
        due("back(0)", -1, ring.back(0));
        due("back(1)", -1, ring.back(1));
    }

    private static void oneBehindAnother() {
        Rings.sentence("(all anew, no ACTS are kept; BOXES are empty)");
        // what one text told is not told by the next one, or the one behind that
        WindowRing ring = new WindowRing();
        for (int i = 0; i < 4; i++) {
            Rings.feed(ring, "windows 3; handler " + (i % 2 == 0 ? "fixed 5" : "double 9") + "; slice 3; price 4 5; def f a = a; task f 1;");
            due("store", 1, ring.store());
            for (int k = 0; k < 2; k++) {
                due("an empty one", 0, ring.store());
                int[] abouts = {6, 0, 0, 0, 0, 0, 0, -1, 0, 8, 0, 0, -1, 6, 0, 0, 0, 0};
                for (int what = 0; what < abouts.length; what++) {
                    due("about(" + what + ")", abouts[what], ring.about(what));
                }
            }
            Rings.feed(ring, "windows 2; def f n = if n > 0 then f(n - 1) else 7; task f 2;");
            due("store", 1, ring.store());
            due("COST by 10 and 1", 22, ring.would(0, 0, 0));
        }
        // eighty units each time
        ring = new WindowRing();
        for (int i = 1; i <= 14; i++) {
            Rings.feed(ring, "def f a = a" + "+a".repeat(79) + "; task f " + i + ";");
            due("store", 1, ring.store());
            due("plain", 80 * i, ring.plain(0, i, 0, 0, 0));
            due("EVENTS", 2, ring.run(9));
            due("result", 80 * i, ring.result(0));
        }
        // where one text had its FAULT the next one may have a TOKEN that is good
        ring = new WindowRing();
        for (String text : new String[] {"def f = f(1);", "def f = f(f());", "def f a = ((((((a))))));", "def a=a(b);", "$"}) {
            Rings.feed(ring, text);
            due("store of " + text, -1, ring.store());
            for (String good : new String[] {"def f a = a;", "def f a =   (((a)));", "def f = if 1 = 1 then 1 else 1;"}) {
                Rings.feed(ring, good);
                due("store of " + good + " behind " + text, 0, ring.store());
                Rings.feed(ring, text);
                ring.store();
            }
        }
    }

    private static void fiveHundredCalls() {
        Rings.sentence("An object is used for at most 512 calls after it has been made");
        WindowRing ring = new WindowRing();
        ring.feed(0x64656620, 0x663d6628, 0x293b7461, 0x736b2066, 0x3b202020);
        due("def f=f();task f;", 1, ring.store());
        for (int i = 1; i <= 250; i++) {
            due("run(1)", 1, ring.run(1));
            due("again", i % 61 == 0, ring.again(0));
        }
        due("law", 0, ring.law());
        due("about(3)", 250, ring.about(3));
        due("FRAMES", 250 % 61, ring.task(0, 2));
        due("undo", true, ring.undo());
        due("redo", true, ring.redo());
        due("best", true, ring.best(1) > 0);
        due("image", 250, ring.image(1));
        due("back", 250, ring.back(1));
        due("about(14)", 0, ring.about(14));
        due("the 512th", 250, ring.about(3));
        ring = new WindowRing();
        for (int i = 1; i < 512; i++) {
            due("slice", i == 1 ? 8 : (i - 1) % 50 + 1, ring.slice(i % 50 + 1));
        }
        due("the 512th", 12, ring.about(14));
    }

    private static void allStays() {
        Rings.sentence("NONE, and all stays: a FAULT.");
        WindowRing amid = Twins.amid();
        due("the BOX", 200, amid.back(0));
        due("the other BOX", 233, amid.back(1));
        due("to be taken back", 6, Twins.amid().about(14));
        due("to be done again", 2, Twins.amid().about(15));
        int[] conditions = {2, 3, 1, 1};
        for (int task = 0; task < 4; task++) {
            due("task(" + task + ", 1)", conditions[task], amid.task(task, 1));
        }
        for (String text : new String[] {"windows 13;", "windows 2; slice 3; price 0 0; def f = 1; task f; $", "windows"}) {
            Twins.unchangedBut("fault(", "store of " + text, TapeEdgesTest::withoutTape, twin -> {
                Rings.feed(twin, text);
                due("store", -1, twin.store());
            });
            Twins.unchangedBut("fault(", "store of " + text, Twins::over, twin -> {
                Rings.feed(twin, text);
                due("store", -1, twin.store());
            });
        }
    }

    private static WindowRing withoutTape() {
        WindowRing ring = Twins.amid();
        ring.end(0);
        return ring;
    }

    private static void faultOfTheLatest() {
        Rings.sentence("Of the latest store() what 0: its FAULT (0: without; ahead of any, too), 1: its place (NONE).");
        WindowRing ring = new WindowRing();
        String[] texts = {"windows 1;", "", "slice 3;slice 3;", "slice 3;", "$", "def f = g;", "task", "def f a b c d e = 1;",
            "def f = 1; task f;"};
        int[] codes = {2, 0, 3, 0, 1, 4, 1, 5, 0};
        int[] places = {8, -1, 8, -1, 0, 8, 4, 14, -1};
        for (int i = 0; i < texts.length; i++) {
            Rings.feed(ring, texts[i]);
            // what was ahead stays till the store()
            due("fault(0) ahead of " + texts[i], i == 0 ? 0 : codes[i - 1], ring.fault(0));
            due("fault(1) ahead of " + texts[i], i == 0 ? -1 : places[i - 1], ring.fault(1));
            ring.store();
            due("fault(0) of " + texts[i], codes[i], ring.fault(0));
            due("fault(1) of " + texts[i], places[i], ring.fault(1));
        }
        ring.run(1);
        ring.image(0);
        Rings.feed(ring, "windows 99;");
        ring.store();
        ring.undo();
        ring.redo();
        ring.run(1);
        due("ACTS leave it", 2, ring.fault(0));
        due("its place", 8, ring.fault(1));
    }

    private static void faultAheadOfAny() {
        Rings.sentence("(0: without; ahead of any, too)");
        WindowRing ring = new WindowRing();
        due("fault(0)", 0, ring.fault(0));
        due("fault(1)", -1, ring.fault(1));
        Rings.feed(ring, "windows 99;");
        due("not stored yet", 0, ring.fault(0));
        due("not stored yet", -1, ring.fault(1));
        ring.store();
        due("stored", 2, ring.fault(0));
    }

    private static void faultForAnotherWhat() {
        Rings.sentence("NONE for another what.");
        for (int what : new int[] {-1, 2, 3, -2, Integer.MIN_VALUE, Integer.MAX_VALUE}) {
            due("without a FAULT", -1, new WindowRing().fault(what));
            due("with one", -1, Rings.of("windows 1;").fault(what));
            due("behind one without", -1, Rings.of("windows 2;").fault(what));
        }
    }
}
