/** Promises 19 to 24, sentence by sentence: plain recursion, a TASK alone, the least COST, the WINDOWS that suit. */
public final class PlainEdgesTest {
    private static final String DOWN = "def f n = if n > 0 then f(n - 1) else 7; ";
    /**
     * s(n) takes 4 n + 2 EVENTS and n + 1 FRAMES, t(n, m) 80 n + 2 EVENTS and those of s(m), u one CALL more. So t(24, 19)
     * takes 2,000 EVENTS and 45 FRAMES, t(24, 20) 2,004 EVENTS, u(24, 19) 2,002.
     */
    private static final String EDGE = "def z = 1; def s n = if n > 0 then z() + s(n - 1) else 0;"
        + "def t n m = if n > 0 then s(19) + t(n - 1, m) else s(m); def u n m = t(n, m); ";
    private static final int[] FAR = {Integer.MIN_VALUE, -1000, -2, -1, 61, 1000, Integer.MAX_VALUE};

    private PlainEdgesTest() {
    }

    public static void main(String[] args) {
        fourNumbers();
        oneBehindAnother();
        sixtyFrames();
        twoThousandEvents();
        plainOfNoneSuch();
        profileOfACall();
        callsOfItself();
        profileOfNoneSuch();
        depthsComeTo();
        depthsOfMore();
        depthsOfNoneSuch();
        aloneFromItsBegin();
        thisRingThesePrices();
        aloneOfMore();
        aloneOfNoneSuch();
        leastOfAll();
        leastBesideAll();
        leastOfWindows();
        leastLikewise();
        fewestWindows();
        suitsNone();
        Rings.finish("PlainEdgesTest");
    }

    private static void due(String what, long want, long got) {
        Rings.due(what, want, got);
    }

    private static void due(String what, boolean want, boolean got) {
        Rings.due(what, want, got);
    }

    private static void fourNumbers() {
        Rings.sentence("What a FUNCTION gives for four numbers (those it has PARAMETERS for), by plain recursion");
        WindowRing ring = Rings.of("def z = 9; def a x = x; def b x y = 10 * x + y; def c x y w = 10 * b(x, y) + w;"
            + "def d x y w v = 10 * c(x, y, w) + v;");
        int[] dues = {9, 1, 12, 123, 1234};
        for (int function = 0; function < 5; function++) {
            due("plain(" + function + ", ..)", dues[function], ring.plain(function, 1, 2, 3, 4));
        }
        due("its own alone", 1, ring.plain(1, 1, -5, Integer.MAX_VALUE, Integer.MIN_VALUE));
        due("an int", Integer.MIN_VALUE, ring.plain(1, Integer.MIN_VALUE, 0, 0, 0));
        due("an int", Integer.MAX_VALUE, ring.plain(1, Integer.MAX_VALUE, 0, 0, 0));
        Twins.unchanged("plain", Twins::amid, twin -> twin.plain(2, 9, 0, 0, 0));
    }

    private static void oneBehindAnother() {
        Rings.sentence("if it takes no more than 60 FRAMES and 2,000 EVENTS; else 0.");
        // one that takes more leaves nothing behind, however often
        WindowRing ring = Rings.of("def k a b c d = a + b + c + d; def w n = k(1, 2, 3, 4 + 5 * w(n));"
            + "def f n = if n > 0 then 1 + k(1, 1, 1, 1 * f(n - 1)) else 0; task w 1; task f 40;");
        for (int i = 0; i < 40; i++) {
            due("endless", 0, ring.plain(1, 1, 0, 0, 0));
            due("endless", -1, ring.depths(0, 1));
            due("40 deep", 160, ring.plain(2, 40, 0, 0, 0));
            due("its FRAMES", 41, ring.profile(2, 40, 0, 0, 0, 1));
            due("its CALLS", 40, ring.profile(2, 40, 0, 0, 0, 2));
            due("its depths", 2, ring.depths(1, 41));
            due("endless", -1, ring.profile(1, 1, 0, 0, 0, 0));
        }
    }

    private static void sixtyFrames() {
        Rings.sentence("if it takes no more than 60 FRAMES and 2,000 EVENTS; else 0.");
        WindowRing ring = Rings.of("def f n = if n > 0 then n + f(n - 1) else 0; def g n = f(n); def w = w();");
        due("60", 1770, ring.plain(0, 59, 0, 0, 0));
        due("61", 0, ring.plain(0, 60, 0, 0, 0));
        due("60", 1711, ring.plain(1, 58, 0, 0, 0));
        due("61", 0, ring.plain(1, 59, 0, 0, 0));
        due("endless", 0, ring.plain(2, 0, 0, 0, 0));
        due("endless", 0, ring.plain(0, Integer.MAX_VALUE, 0, 0, 0));
        due("60 FRAMES", 60, ring.profile(0, 59, 0, 0, 0, 1));
        due("120 EVENTS", 120, ring.profile(0, 59, 0, 0, 0, 0));
        for (int what = 0; what < 3; what++) {
            due("61", -1, ring.profile(0, 60, 0, 0, 0, what));
        }
    }

    private static void twoThousandEvents() {
        Rings.sentence("no more than 60 FRAMES and 2,000 EVENTS");
        WindowRing ring = Rings.of(EDGE);
        due("1,996", 24 * 19 + 18, ring.plain(2, 24, 18, 0, 0));
        due("2,000", 24 * 19 + 19, ring.plain(2, 24, 19, 0, 0));
        due("2,004", 0, ring.plain(2, 24, 20, 0, 0));
        due("1,998", 24 * 19 + 18, ring.plain(3, 24, 18, 0, 0));
        due("2,002", 0, ring.plain(3, 24, 19, 0, 0));
        due("EVENTS", 1996, ring.profile(2, 24, 18, 0, 0, 0));
        due("EVENTS", 2000, ring.profile(2, 24, 19, 0, 0, 0));
        due("EVENTS", 1998, ring.profile(3, 24, 18, 0, 0, 0));
        for (int what = 0; what < 3; what++) {
            due("2,004", -1, ring.profile(2, 24, 20, 0, 0, what));
            due("2,002", -1, ring.profile(3, 24, 19, 0, 0, what));
        }
        due("2,000, FRAMES", 45, ring.profile(2, 24, 19, 0, 0, 1));
        due("2,000, CALLS", 24, ring.profile(2, 24, 19, 0, 0, 2));
    }

    private static void plainOfNoneSuch() {
        Rings.sentence("2,000 EVENTS; else 0.");
        for (int functions = 0; functions <= 6; functions++) {
            StringBuilder text = new StringBuilder();
            for (int i = 0; i < functions; i++) {
                text.append("def ").append((char) ('a' + i)).append(" = ").append(i + 1).append(";");
            }
            WindowRing ring = Rings.of(text.toString());
            if (functions > 0) {
                due("the last", functions, ring.plain(functions - 1, 0, 0, 0, 0));
            }
            due("behind the last", 0, ring.plain(functions, 0, 0, 0, 0));
            due("ahead of the first", 0, ring.plain(-1, 0, 0, 0, 0));
            for (int far : FAR) {
                due("none such", 0, ring.plain(far, 1, 1, 1, 1));
            }
        }
    }

    private static void profileOfACall() {
        Rings.sentence("By plain recursion of such a CALL what 0: EVENTS, 1: the most FRAMES");
        WindowRing ring = Rings.of("def z = 1; def k a b = a + b; def m n = k(z(), k(z(), n)) + z();");
        due("EVENTS of z", 2, ring.profile(0, 0, 0, 0, 0, 0));
        due("FRAMES of z", 1, ring.profile(0, 0, 0, 0, 0, 1));
        due("EVENTS of m", 12, ring.profile(2, 0, 0, 0, 0, 0));
        due("FRAMES of m", 2, ring.profile(2, 0, 0, 0, 0, 1));
        // a call's PARAMETERS are there when it begins
        due("FRAMES, deeper", 3, Rings.of("def z = 1; def y = z(); def m = y() + z();").profile(2, 0, 0, 0, 0, 1));
        Twins.unchanged("profile", Twins::amid, twin -> twin.profile(2, 9, 0, 0, 0, 0));
    }

    private static void callsOfItself() {
        Rings.sentence("2: CALLS of itself (the same FUNCTION; the first one is none)");
        WindowRing ring = Rings.of("def b n = if n < 2 then n else b(n - 1) + b(n - 2); def g n = b(n) + b(n);"
            + "def h n = if n > 0 then h(n - 1) + b(3) else 0;");
        due("none", 0, ring.profile(0, 1, 0, 0, 0, 2));
        due("two", 2, ring.profile(0, 2, 0, 0, 0, 2));
        due("eight", 8, ring.profile(0, 4, 0, 0, 0, 2));
        due("another one's are none", 0, ring.profile(1, 4, 0, 0, 0, 2));
        due("its own alone", 5, ring.profile(2, 5, 0, 0, 0, 2));
    }

    private static void profileOfNoneSuch() {
        Rings.sentence("NONE if it takes more than that, there is none such, or for another what.");
        WindowRing ring = Rings.of(DOWN + "def w = w();");
        for (int what = 0; what < 3; what++) {
            due("there is", true, ring.profile(0, 3, 0, 0, 0, what) > 0);
            due("more than that", -1, ring.profile(1, 0, 0, 0, 0, what));
            due("behind the last", -1, ring.profile(2, 0, 0, 0, 0, what));
            due("ahead of the first", -1, ring.profile(-1, 0, 0, 0, 0, what));
        }
        due("another what", -1, ring.profile(0, 3, 0, 0, 0, 3));
        for (int far : FAR) {
            due("another what", -1, ring.profile(0, 3, 0, 0, 0, far));
            due("none such", -1, ring.profile(far, 3, 0, 0, 0, 0));
        }
    }

    private static void depthsComeTo() {
        Rings.sentence("How often a TASK's plain recursion comes to so many FRAMES (1 .. 60; by its begin, by CALLS)");
        WindowRing ring = Rings.of("def b n = if n < 2 then n else b(n - 1) + b(n - 2);" + DOWN + "task b 4; task f 59; task f 0;");
        // b(4): b(3) b(2); b(2) b(1) b(1) b(0); b(1) b(0)
        int[] times = {1, 2, 4, 2, 0, 0};
        for (int frames = 1; frames <= times.length; frames++) {
            due("depths(0, " + frames + ")", times[frames - 1], ring.depths(0, frames));
        }
        for (int frames = 1; frames <= 60; frames++) {
            due("depths(1, " + frames + ")", 1, ring.depths(1, frames));
            due("depths(2, " + frames + ")", frames == 1 ? 1 : 0, ring.depths(2, frames));
        }
        // whatever it has done so far
        ring.run(300);
        due("depths(0, 3)", 4, ring.depths(0, 3));
        Twins.unchanged("depths", Twins::amid, twin -> twin.depths(2, 3));
    }

    private static void depthsOfMore() {
        Rings.sentence("NONE if it takes more than 2,000 EVENTS, FAILS, or there are none such.");
        WindowRing ring = Rings.of(EDGE + "task t 24 19; task t 24 20; task u 24 19; task u 24 18;");
        due("2,000", 1, ring.depths(0, 1));
        due("2,004", -1, ring.depths(1, 1));
        due("2,002", -1, ring.depths(2, 1));
        due("1,998", 1, ring.depths(3, 1));
        ring = Rings.of(DOWN + "def w = w(); task f 59; task f 60; task w;");
        due("60 FRAMES", 1, ring.depths(0, 60));
        due("FAILS", -1, ring.depths(1, 1));
        due("FAILS", -1, ring.depths(1, 60));
        due("FAILS", -1, ring.depths(2, 1));
    }

    private static void depthsOfNoneSuch() {
        Rings.sentence("FAILS, or there are none such.");
        WindowRing ring = Rings.of(DOWN + "task f 59;");
        due("0", -1, ring.depths(0, 0));
        due("1", 1, ring.depths(0, 1));
        due("60", 1, ring.depths(0, 60));
        due("61", -1, ring.depths(0, 61));
        due("no such TASK", -1, ring.depths(1, 1));
        for (int far : FAR) {
            due("none such", -1, ring.depths(far, 1));
            due("none such", -1, ring.depths(0, far));
        }
    }

    private static void aloneFromItsBegin() {
        Rings.sentence("Were a TASK alone from its begin, with this ring and these prices, by a HANDLER (way, n) what 0: COST, 1: TRAPS, 2: MOVES");
        // eight FRAMES in four WINDOWS; way, n, COST, TRAPS, MOVES
        int[][] rows = {{0, 0, 88, 8, 8}, {1, 1, 88, 8, 8}, {1, 2, 48, 4, 8}, {1, 3, 52, 4, 12}, {1, 8, 52, 4, 12},
            {2, 0, 60, 5, 10}, {3, 1, 88, 8, 8}, {3, 2, 70, 6, 10}, {3, 16, 72, 6, 12}};
        WindowRing ring = Rings.of("windows 4; slice 1; handler fixed 5;" + DOWN + "task f 9; task f 7;");
        for (int[] row : rows) {
            alone(ring, row);
        }
        // the same as if it were so
        for (int[] row : rows) {
            WindowRing one = Rings.of("windows 4;" + DOWN + "task f 7;");
            one.handler(row[0], row[1]);
            one.run(500);
            due("COST of " + row[0] + ", " + row[1], row[2], one.about(6));
            due("TRAPS of " + row[0] + ", " + row[1], row[3], one.about(4));
            due("MOVES of " + row[0] + ", " + row[1], row[4], one.about(5));
        }
        // under way, and over
        ring.run(11);
        alone(ring, rows[2]);
        ring.run(500);
        alone(ring, rows[2]);
        ring.again(1);
        alone(ring, rows[5]);
        Twins.unchanged("alone", Twins::amid, twin -> twin.alone(2, 3, 5, 0));
    }

    private static void alone(WindowRing ring, int[] row) {
        for (int what = 0; what < 3; what++) {
            due("alone(1, " + row[0] + ", " + row[1] + ", " + what + ")", row[2 + what], ring.alone(1, row[0], row[1], what));
        }
    }

    private static void thisRingThesePrices() {
        Rings.sentence("with this ring and these prices");
        for (int windows = 2; windows <= 12; windows++) {
            WindowRing ring = Rings.of("windows " + windows + "; price 3 5;" + DOWN + "task f 7;");
            int more = Math.max(0, 8 - windows);
            due("TRAPS", 2 * more, ring.alone(0, 0, 0, 1));
            due("COST", 16 * more, ring.alone(0, 0, 0, 0));
            ring.price(99, 0);
            due("COST by other prices", 198 * more, ring.alone(0, 0, 0, 0));
            ring.price(0, 99);
            due("COST by other prices", 198 * more, ring.alone(0, 0, 0, 0));
        }
    }

    private static void aloneOfMore() {
        Rings.sentence("NONE if it takes more than 2,000 EVENTS, FAILS, there are none such, or for another what.");
        WindowRing ring = Rings.of(EDGE + "task t 24 19; task t 24 20; task u 24 19; task u 24 18;");
        for (int what = 0; what < 3; what++) {
            due("2,000", true, ring.alone(0, 2, 0, what) > 0);
            due("2,004", -1, ring.alone(1, 2, 0, what));
            due("2,002", -1, ring.alone(2, 2, 0, what));
            due("1,998", true, ring.alone(3, 2, 0, what) > 0);
        }
        WindowRing one = Rings.of(EDGE + "task t 24 19;");
        one.run(500);
        one.run(500);
        one.run(500);
        due("EVENTS", 500, one.run(500));
        due("all over", -1, one.about(7));
        due("COST of 2,000", one.about(6), ring.alone(0, 0, 0, 0));
        ring = Rings.of(DOWN + "def w = w(); task f 59; task f 60; task w;");
        due("60 FRAMES", 2 * 54, ring.alone(0, 0, 0, 1));
        due("FAILS", -1, ring.alone(1, 0, 0, 1));
        due("FAILS", -1, ring.alone(2, 0, 0, 1));
    }

    private static void aloneOfNoneSuch() {
        Rings.sentence("there are none such, or for another what.");
        WindowRing ring = Rings.of(DOWN + "task f 9; task f 1;");
        due("no TRAP", 0, ring.alone(1, 0, 0, 0));
        due("no such TASK", -1, ring.alone(2, 0, 0, 0));
        due("no such TASK", -1, ring.alone(-1, 0, 0, 0));
        due("another what", -1, ring.alone(0, 0, 0, 3));
        due("another what", -1, ring.alone(0, 0, 0, -1));
        int[][] cannot = {{-1, 1}, {4, 1}, {1, 0}, {1, 9}, {3, 0}, {3, 17}};
        int[][] can = {{0, -1}, {0, 99}, {1, 1}, {1, 8}, {2, -1}, {2, 99}, {3, 1}, {3, 16}};
        for (int what = 0; what < 3; what++) {
            for (int[] pair : cannot) {
                due("alone(0, " + pair[0] + ", " + pair[1] + ")", -1, ring.alone(0, pair[0], pair[1], what));
            }
            for (int[] pair : can) {
                due("alone(0, " + pair[0] + ", " + pair[1] + ")", true, ring.alone(0, pair[0], pair[1], what) > 0);
            }
        }
        for (int far : FAR) {
            due("none such", -1, ring.alone(far, 0, 0, 0));
            due("none such", -1, ring.alone(0, far, 1, 0));
            due("none such", -1, ring.alone(0, 1, far, 0));
            due("none such", -1, ring.alone(0, 3, far, 0));
            due("another what", -1, ring.alone(0, 0, 0, far));
        }
    }

    private static void leastOfAll() {
        Rings.sentence("The least COST for a TASK so, if at each TRAP K is chosen knowing all that comes, with w WINDOWS (2 .. 12)");
        WindowRing ring = Rings.of("windows 6;" + DOWN + "task f 7; task f 0; task f 11; task f 12;");
        // eight FRAMES: as many more as there are WINDOWS are SPILLED and FILLED, by as few TRAPS as can be
        int[] least = {6 * 11 + 3 * 12, 3 * 10 + 5 + 2 * 10 + 5, 2 * 10 + 4 + 10 + 4, 10 + 3 + 10 + 3, 10 + 2 + 10 + 2, 22, 0, 0, 0, 0, 0};
        for (int w = 2; w <= 12; w++) {
            due("least(0, " + w + ")", least[w - 2], ring.least(0, w));
            due("least(1, " + w + ")", 0, ring.least(1, w));
            due("least(2, " + w + ") is 0", w == 12, ring.least(2, w) == 0);
        }
        due("thirteen FRAMES in twelve", 22, ring.least(3, 12));
        // it does not matter how many there are
        due("six", 6, ring.about(0));
        ring.price(0, 1);
        due("the MOVES alone", 8, ring.least(0, 4));
        ring.price(1, 0);
        due("the TRAPS alone", 3, ring.least(0, 4));
        ring.price(0, 0);
        due("no COST", 0, ring.least(0, 2));
        ring.price(99, 99);
        due("the dearest", 3 * 99 + 8 * 99, ring.least(0, 4));
        Twins.unchanged("least", Twins::amid, twin -> twin.least(2, 3));
    }

    /** The least by trying every K at every TRAP. */
    private static void leastBesideAll() {
        Rings.sentence("if at each TRAP K is chosen knowing all that comes");
        String[] bodies = {"if n > 0 then f(n - 1) else 7", "if n < 2 then n else f(n - 1) + f(n - 2)",
            "if n > 1 then f(n - 2) + f(n - 2) else n", "if n > 0 then f(n - 1) + f(0) + f(0) else n"};
        for (String body : bodies) {
            for (int n = 2; n <= 6; n++) {
                WindowRing ring = Rings.of("def f n = " + body + "; task f " + n + ";");
                ring.run(500);
                int[] frames = framesOf("def f n = " + body + "; task f " + n + ";");
                for (int w = 2; w <= 4; w++) {
                    for (int[] price : new int[][] {{10, 1}, {1, 10}, {3, 2}, {0, 5}}) {
                        ring.price(price[0], price[1]);
                        due("least of " + body + ", " + n + " by " + w, leastFrom(frames, 1, 1, w, price), ring.least(0, w));
                    }
                }
            }
        }
    }

    private static int[] framesOf(String text) {
        WindowRing ring = Rings.of(text);
        ring.run(1);
        int[] frames = new int[ring.profile(0, ring.value(0, 1, 0), 0, 0, 0, 0)];
        for (int i = 0; i < frames.length; i++) {
            frames[i] = ring.task(0, 2);
            ring.run(1);
        }
        return frames;
    }

    private static int leastFrom(int[] frames, int event, int resident, int w, int[] price) {
        for (int i = event; i < frames.length; i++) {
            boolean call = frames[i] > frames[i - 1];
            if (call && resident == w) {
                int least = Integer.MAX_VALUE;
                for (int k = 1; k < w; k++) {
                    least = Math.min(least, price[0] + k * price[1] + leastFrom(frames, i + 1, w - k + 1, w, price));
                }
                return least;
            }
            resident += call ? 1 : -1;
            if (resident == 0 && frames[i] > 0) {
                int least = Integer.MAX_VALUE;
                for (int k = 1; k <= Math.min(w, frames[i]); k++) {
                    least = Math.min(least, price[0] + k * price[1] + leastFrom(frames, i + 1, k, w, price));
                }
                return least;
            }
        }
        return 0;
    }

    private static void leastOfWindows() {
        Rings.sentence("NONE likewise, or if w can't be.");
        WindowRing ring = Rings.of(DOWN + "task f 20; task f 0;");
        for (int task = 0; task < 2; task++) {
            due("1", -1, ring.least(task, 1));
            due("2", true, ring.least(task, 2) >= 0);
            due("12", true, ring.least(task, 12) >= 0);
            due("13", -1, ring.least(task, 13));
            due("0", -1, ring.least(task, 0));
            for (int far : FAR) {
                due("none such", -1, ring.least(task, far));
            }
        }
    }

    private static void leastLikewise() {
        Rings.sentence("NONE likewise");
        WindowRing ring = Rings.of(EDGE + "task t 24 19; task t 24 20; task u 24 19; task u 24 18;");
        for (int w : new int[] {2, 12}) {
            due("2,000", true, ring.least(0, w) > 0);
            due("2,004", -1, ring.least(1, w));
            due("2,002", -1, ring.least(2, w));
            due("1,998", true, ring.least(3, w) > 0);
        }
        ring = Rings.of(DOWN + "def w = w(); task f 59; task f 60; task w;");
        // all but the last twelve: 48 are SPILLED by five OVERFLOWS, eleven each at most; FILLED by four, twelve each
        due("60 FRAMES", 5 * 10 + 48 + 4 * 10 + 48, ring.least(0, 12));
        due("FAILS", -1, ring.least(1, 12));
        due("FAILS", -1, ring.least(2, 12));
        due("no such TASK", -1, ring.least(3, 12));
        for (int far : FAR) {
            due("no such TASK", -1, ring.least(far, 12));
        }
    }

    private static void fewestWindows() {
        Rings.sentence("The fewest WINDOWS (2 .. 12) by which a TASK alone has no TRAP");
        for (int n = 0; n <= 11; n++) {
            WindowRing ring = Rings.of("windows 2;" + DOWN + "task f " + n + ";");
            int fewest = Math.max(2, n + 1);
            due("suits of " + (n + 1) + " FRAMES", fewest, ring.suits(0));
            due("no TRAP by so many", 0, ring.least(0, fewest));
            due("one by fewer", fewest > 2, fewest > 2 && ring.least(0, fewest - 1) > 0);
        }
        due("the most, not the last", 5, Rings.of(DOWN + "def m = f(1) + f(3) + f(0); task m;").suits(0));
        Twins.unchanged("suits", Twins::amid, twin -> twin.suits(2));
    }

    private static void suitsNone() {
        Rings.sentence("NONE if by none, or as in alone().");
        WindowRing ring = Rings.of(DOWN + "def w = w(); task f 11; task f 12; task f 60; task w;");
        due("twelve FRAMES", 12, ring.suits(0));
        due("thirteen", -1, ring.suits(1));
        due("FAILS", -1, ring.suits(2));
        due("FAILS", -1, ring.suits(3));
        due("no such TASK", -1, ring.suits(4));
        for (int far : FAR) {
            due("no such TASK", -1, ring.suits(far));
        }
        // wide, not deep: of 511, 255, 127, .. g takes 2046, 1022, 510, .. EVENTS and 10, 9, 8, .. FRAMES
        String wide = "def g n = if n > 0 then g(n / 2) + g(n / 2) else 7;"
            + "def h = g(255) + g(127) + g(63) + g(31) + g(15) + g(3) + g(1) + g(0) + g(0); def i = h();";
        ring = Rings.of(wide + "task g 511; task g 255; task h; task i;");
        due("2,046 EVENTS in ten FRAMES", -1, ring.suits(0));
        due("1,022 in nine", 9, ring.suits(1));
        due("2,000 in ten", 10, ring.suits(2));
        due("2,002 in eleven", -1, ring.suits(3));
        due("2,000", 2000, ring.profile(1, 0, 0, 0, 0, 0));
    }
}
