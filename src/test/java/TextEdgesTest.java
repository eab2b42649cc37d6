/** The Terms' first part, sentence by sentence: texts on both sides of each boundary, with the FAULT and its place. */
public final class TextEdgesTest {
    private static final String[] WORDS = {"windows", "handler", "slice", "price", "def", "task", "single", "fixed", "counter",
        "double", "if", "then", "else"};

    private TextEdgesTest() {
    }

    public static void main(String[] args) {
        lengthOfAText();
        eachByteAlone();
        eachByteInAFormula();
        asLongAsCanBe();
        wordsAreNoNames();
        windows();
        handlers();
        slices();
        prices();
        onceEach();
        functions();
        parameters();
        unlikeNames();
        tasks();
        numbersOfATask();
        namesInFormulas();
        numbersInFormulas();
        unitsInAll();
        withinFiveOthers();
        withinAnIf();
        firstByItsPlace();
        placeOfAToken();
        leastOfOnePlace();
        tokensThatCannotStandThere();
        numbersThatCannotBe();
        toldAlready();
        namesNotTold();
        oneTooMany();
        tooFewGiven();
        tooManyGiven();
        numbersThatWrap();
        dividing();
        Rings.finish("TextEdgesTest");
    }

    private static void due(String what, long want, long got) {
        Rings.due(what, want, got);
    }

    private static void fault(int code, String marked) {
        Rings.fault(code, marked);
    }

    private static WindowRing good(int tasks, String text) {
        return Rings.good(tasks, text);
    }

    private static void lengthOfAText() {
        Rings.sentence("A STORE is a text of at most 1,000 bytes");
        String head = "def f = 1;";
        String tail = "task f;";
        String blanks = " ".repeat(1000 - head.length() - tail.length());
        due("bytes", 1000, (head + blanks + tail).length());
        good(1, head + blanks + tail);
        fault(1, head + blanks + "task f |");
        fault(1, head + blanks + "task f|)");
        good(0, "");
        good(0, " ");
        good(0, "\n".repeat(1000));
        good(0, "def " + "x".repeat(990) + "=1;");
        fault(1, "|" + "x".repeat(1000));
        fault(2, "windows |" + "9".repeat(992));
        good(0, "windows " + "0".repeat(989) + "12;");
    }

    /** What each byte is: behind a number, where a ; is due. */
    private static void eachByteAlone() {
        Rings.sentence("TOKENS, blanks (32, 10) aside");
        for (int sign = 0; sign < 256; sign++) {
            String text = "slice 5" + (char) sign + ";";
            if (sign == 32 || sign == 10) {
                good(0, text);
            } else if (sign == '0') {
                due("SLICE", 50, good(0, text).about(9));
            } else if (sign >= '1' && sign <= '9') {
                fault(2, "slice |5" + (char) sign + ";");
            } else if (sign == ';') {
                fault(1, "slice 5;|;");
            } else {
                fault(1, "slice 5|" + (char) sign + ";");
            }
        }
    }

    /** What each byte is: between two units. */
    private static void eachByteInAFormula() {
        Rings.sentence("words (a .. z), numbers (digits), the signs ; = ( ) , + - * / %");
        for (int sign = 0; sign < 256; sign++) {
            String text = "def f a = a" + (char) sign + "a;";
            if ("+-*/%".indexOf(sign) >= 0) {
                good(0, text);
            } else if (sign == 32 || sign == 10) {
                fault(1, "def f a = a" + (char) sign + "|a;");
            } else if (sign >= 'a' && sign <= 'z' || sign == '(') {
                // another NAME, or one that is called
                fault(4, "def f a = |a" + (char) sign + "a;");
            } else if (sign == ';') {
                fault(1, "def f a = a;|a;");
            } else {
                fault(1, "def f a = a|" + (char) sign + "a;");
            }
        }
        for (char sign : new char[] {'<', '>', '='}) {
            good(0, "def f a = if a" + sign + "a then 1 else 2;");
        }
        fault(1, "def f a = if a <|= a then 1 else 2;");
        fault(1, "def f a = if a =|= a then 1 else 2;");
    }

    private static void asLongAsCanBe() {
        Rings.sentence("each as long as can be");
        due("windows12", 12, good(0, "windows12;").about(0));
        fault(2, "windows |1 2;");
        fault(1, "|win dows 2;");
        fault(1, "|windowss 2;");
        fault(1, "|deff = 1;");
        fault(1, "def f |2 = 1;");
        fault(1, "def f a = a|1;");
        fault(1, "def f a = 1|a;");
        fault(4, "def f a = |aa;");
        good(1, "def f=1;task f;");
        good(1, "def f a=if a<1then 2else 3;task f-7;");
        fault(4, "def f a = |ifa;");
        due("price 12 3", 12 + 3 + 12 + 3, good(1, "price 12 3; windows 2; def f n = if n > 0 then f(n - 1) else 7; task f 2;")
            .best(1));
        // what was cut off, or lay on the TAPE before, is no part of a TOKEN
        WindowRing ring = new WindowRing();
        Rings.feed(ring, "slice 50;windows 12;");
        ring.end(17);
        due("windows, cut", -1, ring.store());
        due("an end behind windows", 17, ring.fault(1));
        Rings.feed(ring, "slice 7");
        due("slice 7 without ;", -1, ring.store());
        due("its end", 7, ring.fault(1));
        Rings.feed(ring, "slice 5;     ;");
        ring.end(8);
        due("slice 5;", 0, ring.store());
        due("SLICE", 5, ring.about(9));
    }

    private static void wordsAreNoNames() {
        Rings.sentence("Words that stand for themselves here are no NAMES.");
        for (String word : WORDS) {
            fault(1, "def |" + word + " = 1;");
            fault(1, "def f |" + word + " = 1;");
            fault(1, "def f a |" + word + " = 1;");
            fault(1, "def f a = 1 + |" + word + ";");
            fault(1, "def f a = 1; task |" + word + ";");
            good(0, "def " + word + "x " + word + "y = " + word + "y;");
            good(0, "def x" + word + " = 1;");
            good(0, "def " + word.substring(0, word.length() - 1) + " = 1;");
        }
        good(0, "def way line = line; def n sum term unit name = name; def e = n(1, 2, 3, 4);");
    }

    private static void windows() {
        Rings.sentence("windows (2 .. 12; 6 if not told)");
        due("not told", 6, good(0, "").about(0));
        for (int n = 2; n <= 12; n++) {
            WindowRing ring = good(0, "windows " + n + ";");
            due("WINDOWS", n, ring.about(0));
            due("FREE", n, ring.about(13));
            due("the last", -1, ring.window(n - 1, 0));
            due("none behind it", -2, ring.window(n, 0));
        }
        fault(2, "windows |0;");
        fault(2, "windows |1;");
        fault(2, "windows |13;");
        fault(1, "windows |-2;");
    }

    private static void handlers() {
        Rings.sentence("handler (single)");
        handler(0, 0, "");
        handler(0, 0, "handler single;");
        handler(2, 0, "handler counter;");
        Rings.sentence("fixed 1 .. 8, double 1 .. 16");
        for (int n = 1; n <= 8; n++) {
            handler(1, n, "handler fixed " + n + ";");
        }
        for (int n = 1; n <= 16; n++) {
            handler(3, n, "handler double " + n + ";");
        }
        fault(2, "handler fixed |0;");
        fault(2, "handler fixed |9;");
        fault(2, "handler double |0;");
        fault(2, "handler double |17;");
        fault(1, "handler fixed|;");
        fault(1, "handler double|;");
        fault(1, "handler single |1;");
        fault(1, "handler counter |1;");
        fault(1, "handler|;");
    }

    private static void handler(int way, int n, String text) {
        WindowRing ring = good(0, text);
        due("the HANDLER of " + text, way, ring.about(10));
        due("its n of " + text, n, ring.about(11));
    }

    private static void slices() {
        Rings.sentence("slice (1 .. 50; 8)");
        due("not told", 8, good(0, "").about(9));
        for (int n : new int[] {1, 2, 49, 50}) {
            due("SLICE", n, good(0, "slice " + n + ";").about(9));
        }
        fault(2, "slice |0;");
        fault(2, "slice |51;");
    }

    private static void prices() {
        Rings.sentence("price (for a TRAP 0 .. 99, for a MOVE 0 .. 99; 10 1)");
        // seven FRAMES in six WINDOWS: one OVERFLOW, one UNDERFLOW, two MOVES
        String deep = "def f n = if n > 0 then f(n - 1) else 7; task f 6;";
        due("not told", 2 * 10 + 2, cost(deep));
        due("0 0", 0, cost("price 0 0;" + deep));
        due("99 0", 2 * 99, cost("price 99 0;" + deep));
        due("0 99", 2 * 99, cost("price 0 99;" + deep));
        due("99 99", 4 * 99, cost("price 99 99;" + deep));
        due("told behind the TASK", 2 * 4 + 2 * 5, cost(deep + "price 4 5;"));
        fault(2, "price |100 0;");
        fault(2, "price 0 |100;");
        fault(2, "price 99 |100;");
        fault(1, "price 1|;");
        fault(1, "price 1 2 |3;");
        fault(1, "price 1 |- 2;");
    }

    private static int cost(String text) {
        WindowRing ring = good(1, text);
        ring.run(500);
        due("TRAPS", 2, ring.about(4));
        due("MOVES", 2, ring.about(5));
        return ring.about(6);
    }

    private static void onceEach() {
        Rings.sentence("once each");
        String[] lines = {"windows 6;", "handler single;", "slice 8;", "price 10 1;"};
        good(0, String.join("", lines));
        good(0, lines[3] + lines[2] + lines[1] + lines[0]);
        for (String line : lines) {
            fault(3, line + "|" + line);
            fault(3, String.join(" ", lines) + " def f = 1; task f; |" + line);
        }
        // a STORE with a FAULT is forgotten, and so is the one ahead
        WindowRing ring = Rings.of("windows 4; slice 3; windows 5;");
        due("twice", 3, ring.fault(0));
        Rings.feed(ring, "windows 5;");
        due("once", 0, ring.store());
        Rings.feed(ring, "windows 7; slice 2;");
        due("once", 0, ring.store());
        due("WINDOWS", 7, ring.about(0));
        due("SLICE", 2, ring.about(9));
    }

    private static void functions() {
        Rings.sentence("At most 6 FUNCTIONS, numbered as told");
        String six = "def a = 10; def b = 11; def c = 12; def d = 13; def e = 14; def f = 15;";
        WindowRing ring = good(0, six);
        due("FUNCTIONS", 6, ring.about(1));
        for (int function = 0; function < 6; function++) {
            due("plain", 10 + function, ring.plain(function, 0, 0, 0, 0));
        }
        due("no seventh", -1, ring.profile(6, 0, 0, 0, 0, 0));
        fault(5, six + "|def g = 16;");
        fault(5, six + "|def a = 16;");
        fault(5, six + " task f; |def");
        good(4, six + "task a; task f; task c; task d;");
        due("none", 0, good(0, "").about(1));
    }

    private static void parameters() {
        Rings.sentence("of at most 4 PARAMETERS");
        due("0", 7, good(0, "def f = 7;").plain(0, 1, 2, 3, 4));
        due("1", 1, good(0, "def f a = a;").plain(0, 1, 2, 3, 4));
        due("4", 1234, good(0, "def f a b c d = a * 1000 + b * 100 + c * 10 + d;").plain(0, 1, 2, 3, 4));
        fault(5, "def f a b c d |e = 1;");
        fault(5, "def f a b c d |e g = 1;");
        fault(1, "def f a b c d |1 = 1;");
        fault(1, "def f a b c d|;");
    }

    private static void unlikeNames() {
        Rings.sentence("(unlike NAMES, none of them that of the FUNCTION, or of one told ahead)");
        fault(3, "def f a |a = 1;");
        fault(3, "def f a b c |a = 1;");
        fault(3, "def f a b c |c = 1;");
        fault(3, "def f |f = 1;");
        fault(3, "def f a |f = 1;");
        fault(3, "def f = 1; def g |f = 1;");
        fault(3, "def f = 1; def g = 2; def h a b c |g = 1;");
        good(0, "def f a b = a; def g a b = b;");
        good(0, "def f g = g; def h g = g;");
        good(0, "def f a = a; def a = 1;");
        good(0, "def fa a = a; def fb f = f; def b fab = fab;");
    }

    private static void tasks() {
        Rings.sentence("at most 4 TASKS, numbered as told: a FUNCTION told ahead");
        WindowRing ring = good(4, "def a = 1; def b = 2; task b; task a; def c = 3; task c; task b;");
        int[] functions = {1, 0, 2, 1};
        for (int task = 0; task < 4; task++) {
            due("its FUNCTION", functions[task], ring.task(task, 0));
        }
        due("no fifth", -100, ring.task(4, 0));
        ring.run(500);
        due("result", 2, ring.result(0));
        due("result", 3, ring.result(2));
        fault(5, "def a = 1; task a; task a; task a; task a; |task a;");
        fault(5, "def a = 1; task a; task a; task a; task a; |task");
        good(0, "def a = 1;");
        fault(4, "task |a; def a = 1;");
        fault(4, "def a = 1; task a; task |b; def b = 1;");
        fault(4, "def a x = 1; task |x;");
    }

    private static void numbersOfATask() {
        Rings.sentence("as many numbers as it has PARAMETERS");
        String head = "def z = 0; def f a = a; def g a b c d = a * 1000 + b * 100 + c * 10 + d; ";
        due("none", 1, good(1, head + "task z;").about(2));
        fault(5, head + "task z |1;");
        fault(5, head + "task z |-1;");
        fault(5, head + "task f|;");
        WindowRing ring = good(2, head + "task f -5; task g 1 -2 3 - 4;");
        fault(5, head + "task f 1 |2;");
        fault(5, head + "task f 1 |-2;");
        fault(5, head + "task g 1 2 3|;");
        fault(5, head + "task g 1 2 3 4 |5;");
        ring.run(500);
        due("below 0", -5, ring.result(0));
        due("in their order", 1000 - 200 + 30 - 4, ring.result(1));
    }

    private static void namesInFormulas() {
        Rings.sentence("In e a NAME alone is a PARAMETER; NAME ( ) a FUNCTION told ahead or this one");
        due("this one", 6, good(0, "def f n = if n > 0 then n + f(n - 1) else 0;").plain(0, 3, 0, 0, 0));
        due("one told ahead", 9, good(0, "def g a = a * a; def f n = g(n);").plain(1, 3, 0, 0, 0));
        fault(4, "def f n = |g(n); def g a = a;");
        fault(4, "def f n = |m;");
        fault(4, "def g m = m; def f n = |m;");
        fault(4, "def f n = |f;");
        fault(4, "def g = 1; def f n = |g;");
        fault(4, "def f n = |n(1);");
        fault(4, "def f n = |n();");
        Rings.sentence("with as many e as it has PARAMETERS (one without PARAMETERS: NAME ( ))");
        due("none", 5, good(0, "def g = 5; def f = g();").plain(1, 0, 0, 0, 0));
        due("none, with a blank", 5, good(0, "def g = 5; def f = g ( );").plain(1, 0, 0, 0, 0));
        due("four", 4321, good(0, "def g a b c d = a + 10 * b + 100 * c + 1000 * d; def f = g(1, 2, 3, 4);")
            .plain(1, 0, 0, 0, 0));
        fault(5, "def g = 5; def f = g(|1);");
        fault(5, "def g a = 5; def f = g(|);");
        fault(5, "def g a b c d = 5; def f = g(1, 2, 3|);");
        fault(5, "def g a b c d = 5; def f = g(1, 2, 3, 4|, 5);");
    }

    private static void numbersInFormulas() {
        Rings.sentence("N of e is 0 .. 9,999, of a task likewise.");
        due("0", 0, good(0, "def f = 0;").plain(0, 1, 1, 1, 1));
        due("9999", 9999, good(0, "def f = 9999;").plain(0, 0, 0, 0, 0));
        due("09999", 9999, good(0, "def f = 000009999;").plain(0, 0, 0, 0, 0));
        fault(2, "def f = |10000;");
        fault(2, "def f = |4294967297;");
        fault(2, "def f = |18446744073709551617;");
        fault(2, "def f = 9999 + |10000;");
        fault(2, "def f = -|10000;");
        WindowRing ring = good(4, "def f a = a; task f 0; task f 9999; task f -9999; task f -0;");
        ring.run(500);
        int[] results = {0, 9999, -9999, 0};
        for (int task = 0; task < 4; task++) {
            due("result", results[task], ring.result(task));
        }
        fault(2, "def f a = a; task f |10000;");
        fault(2, "def f a = a; task f -|10000;");
        fault(2, "def f a = a; task f |4294967297;");
    }

    private static void unitsInAll() {
        Rings.sentence("80 units in all");
        String all = "def f a = a" + "+a".repeat(79);
        due("80", 80, good(0, all + ";").about(17));
        for (String last : new String[] {"a", "1", "(a)", "-a", "f(a)", "(1)", "-1"}) {
            fault(5, all + "+|" + last + ";");
        }
        fault(5, all + "; def g = |1;");
        fault(5, all + "; def g = if |1 = 1 then 1 else 1;");
        String but = "def f a = a" + "+a".repeat(78);
        due("79", 79, good(0, but + ";").about(17));
        due("a number", 80, good(0, but + "+1;").about(17));
        fault(5, but + "+-|1;");
        fault(5, but + "+(|1);");
        fault(5, but + "+f(|1);");
        fault(5, but + "; def g = 1 + |1;");
        due("NAME ( ) is one", 80, good(0, "def z = 1; def f a = a" + "+a".repeat(77) + "+z();").about(17));
        due("in all", 80, good(0, "def g = 1" + "+1".repeat(39) + "; def f = 2" + "*2".repeat(39) + ";").about(17));
        due("an if is none", 4, good(0, "def f a = if a = 1 then 2 else 3;").about(17));
        due("( ) and - are units", 5, good(0, "def f a = (-(-a));").about(17));
        due("none", 0, good(0, "windows 3;").about(17));
        // those of a STORE with a FAULT are not counted on
        WindowRing ring = good(0, all + ";");
        Rings.feed(ring, all + "+a;");
        due("81", -1, ring.store());
        due("80 still", 80, ring.about(17));
        Rings.feed(ring, "def f = 1;");
        due("anew", 0, ring.store());
        due("1", 1, ring.about(17));
    }

    private static void withinFiveOthers() {
        Rings.sentence("a unit, an if within 5 others at most (within the ( ) of a unit, behind a - unit, within an if)");
        for (String unit : new String[] {"a", "1", "z()"}) {
            String head = "def z = 1; def f a = ";
            good(0, head + "(((((" + unit + ")))));");
            fault(5, head + "((((((|" + unit + "))))));");
            good(0, head + "-----" + unit + ";");
            fault(5, head + "------|" + unit + ";");
            good(0, head + "f(f(f(f(f(" + unit + ")))));");
            fault(5, head + "f(f(f(f(f(f(|" + unit + "))))));");
        }
        fault(5, "def f a = ((((((|-a))))));");
        fault(5, "def f a = ((((((|(a)))))));");
        fault(5, "def f a = ((((((|f(a)))))));");
        fault(5, "def f a = (((((-|a)))));");
        fault(5, "def f a = (((((f(|a))))));");
        good(0, "def f a = (-(f(-a)));");
        good(0, "def f a = -(f((-a)));");
        fault(5, "def f a = (-f((-(|a))));");
        good(0, "def f a b = f(((((a)))), -((-b)));");
        fault(5, "def f a b = f(a, (((((|a))))));");
        // it is how deep, not how many: a ( ) that is closed is no other
        good(0, "def f a = ((((a)))) + ((((a)))) * -----a - (((((a)))));");
        fault(5, "def f a = ((((a)))) + (((((-|a)))));");
    }

    private static void withinAnIf() {
        Rings.sentence("within an if)");
        String five = "if a = 1 then 1 else ".repeat(5);
        due("five", 8, good(0, "def f a = " + five + "8;").plain(0, 9, 0, 0, 0));
        fault(5, "def f a = " + five + "if |a = 1 then 1 else 8;");
        fault(5, "def f a = " + five + "-|a;");
        fault(5, "def f a = " + five + "(|if a = 1 then 1 else 8);");
        // each of its four parts
        String four = "if a = 1 then 1 else ".repeat(4);
        fault(5, "def f a = " + four + "if -|a = 1 then 1 else 8;");
        good(0, "def f a = " + four + "if a = 1 then 1 else 8;");
        fault(5, "def f a = ((((if a = (|a) then 1 else 2))));");
        fault(5, "def f a = ((((if a = 1 then (|a) else 2))));");
        fault(5, "def f a = ((((if a = 1 then 1 else (|a)))));");
        fault(5, "def f a = ((((if (|a) = 1 then 1 else 2))));");
        good(0, "def f a = ((((if a = a then a else a))));");
        good(0, "def f a = (((if (a) = (a) then (a) else -a)));");
        // an if within 5 others may stand, what is in it may not; one within 6 may not
        fault(5, "def f a = (((((if |a = 1 then 1 else 2)))));");
        fault(5, "def f a = ((((((|if a = 1 then 1 else 2))))));");
        fault(5, "def f a = f(f(f(f(f(f(|if a = 1 then 1 else 2))))));");
        good(0, "def f a = if a = 1 then if a = 2 then if a = 3 then if a = 4 then if a = 5 then 1 else 2 else 3 else 4 else 5 else 6;");
        fault(5, "def f a = if a = 1 then if a = 2 then if a = 3 then if a = 4 then if a = 5 then if |a = 6 then 1 else 1 else 2 "
            + "else 3 else 4 else 5 else 6;");
    }

    private static void firstByItsPlace() {
        Rings.sentence("FAULTS, the first by its place");
        fault(5, "def f a b c d |e = 10000;");
        fault(2, "windows |1; windows 3;");
        fault(3, "slice 1; |slice 99; $");
        fault(4, "def f = |g + 10000;");
        fault(1, "def f = |$ + 10000;");
        fault(4, "def f a = |b &");
        fault(4, "def f a = f(|b, 10000);");
        fault(2, "def f a = f(|10000, 1);");
        fault(2, "def f a = a; task f |10000 1;");
        fault(5, "def f a = a; task f 1 |2 10000;");
    }

    private static void placeOfAToken() {
        Rings.sentence("(a TOKEN's first byte; the end's, the text's length)");
        fault(1, "windows 6;   |abc");
        fault(2, "windows\n\n  |0013  ;");
        fault(3, "slice 1; \n |slice 1;");
        fault(4, "def f aaa = 1 +  |aa ;");
        fault(1, "windows|");
        fault(1, "windows   |");
        fault(1, "windows 6|");
        fault(1, "windows 6 \n|");
        fault(1, "handler fixed|");
        fault(1, "price 1|");
        fault(1, "def|");
        fault(1, "def f|");
        fault(1, "def f a =|");
        fault(1, "def f a = a|");
        fault(1, "def f a = a +|");
        fault(1, "def f a = f(|");
        fault(1, "def f a = f(a|");
        fault(1, "def f a = (a|");
        fault(1, "def f a = if a|");
        fault(1, "def f a = if a = 1 then 1 else|");
        fault(1, "def f = 1; task|");
        fault(1, "def f a = a; task f|");
        fault(1, "def f a = a; task f -|");
        fault(4, "def f a = |f");
        WindowRing whole = Rings.of("x");
        due("the first byte", 0, whole.fault(1));
    }

    private static void leastOfOnePlace() {
        Rings.sentence("of one place the least");
        String all = "def f a = a" + "+a".repeat(79);
        fault(1, all + "+|;");
        fault(1, all + "+|then;");
        fault(2, all + "+|10000;");
        fault(4, all + "+|b;");
        fault(4, all + "+|b(1);");
        fault(4, all + "+|f;");
        fault(1, "def f a = ((((((|))))));");
        fault(2, "def f a = ((((((|10000))))));");
        fault(4, "def f a = ((((((|b))))));");
        fault(4, "def f a = ------|b;");
        fault(3, "def f a b c d |a = 1;");
        fault(3, "def f a b c d |f = 1;");
        fault(1, "def f = f(|then);");
        fault(1, "def f = f(|,);");
        fault(1, "def f = f(|;");
        fault(2, "def f = f(|10000);");
        fault(4, "def f = f(|x);");
        fault(4, "def f = f(|x());");
        fault(4, "def f = f(|f);");
        fault(2, "def f a = a; task f 1 |10000;");
        fault(1, "def f a = a; task f 1 |x;");
        fault(1, "def f a = a; task f -|;");
    }

    private static void tokensThatCannotStandThere() {
        Rings.sentence("1 a TOKEN that is none, or can't stand there");
        for (String line : new String[] {";", "7;", "f;", "single;", "if;", "then;", "else;", "= 1;", "- 1;"}) {
            fault(1, "|" + line);
            fault(1, "windows 6; |" + line);
        }
        fault(1, "windows |six;");
        fault(1, "windows 6 |=;");
        fault(1, "slice |;");
        fault(1, "handler |fast;");
        fault(1, "handler |2;");
        fault(1, "handler double |counter;");
        fault(1, "def |7 = 1;");
        fault(1, "def |= 1;");
        fault(1, "def f a|, b = 1;");
        fault(1, "def f|(a) = 1;");
        fault(1, "def f =|;");
        fault(1, "def f = |* 1;");
        fault(1, "def f = |+ 1;");
        fault(1, "def f = 1 + |+ 1;");
        fault(1, "def f = 1 * |;");
        fault(1, "def f = 1 |2;");
        fault(1, "def f = 1|);");
        fault(1, "def f = (1|;");
        fault(1, "def f = (|);");
        fault(1, "def f = (1|, 2);");
        fault(1, "def f = 1|, 2;");
        fault(1, "def f = 1 |< 2;");
        fault(1, "def f = 1 |= 2;");
        fault(1, "def f = 1 + |if 1 = 1 then 1 else 2;");
        fault(1, "def f = - |if 1 = 1 then 1 else 2;");
        fault(1, "def f = if |if 1 = 1 then 1 else 2 = 1 then 1 else 2;");
        fault(1, "def f = if 1 = |if 1 = 1 then 1 else 2 then 1 else 2;");
        fault(1, "def f = if 1 |then 1 else 2;");
        fault(1, "def f = if 1 = 1 |else 1;");
        fault(1, "def f = if 1 = 1 then 1|;");
        fault(1, "def f = if 1 = 1 then 1 else|;");
        fault(1, "def f = if 1 = 1 |= 1 then 1 else 2;");
        fault(1, "def f a = f(a |a);");
        fault(1, "def f a = f(a|;");
        fault(1, "def f a b = f(a|;");
        fault(1, "def f a b = f(a,|;");
        fault(1, "def f a b = f(a,|,a);");
        fault(1, "def f a = f(|,a);");
        fault(1, "def f a = f(a +|);");
        fault(1, "def f a = a; task |7;");
        fault(1, "def f a = a; task|;");
        fault(1, "def f a = a; task f |a;");
        fault(1, "def f a = a; task f |+ 1;");
        fault(1, "def f a = a; task f - |- 1;");
        fault(1, "def f a b = a; task f 1|, 2;");
        fault(1, "def f a = a; task f|(1);");
        fault(1, "def f = 1; task f|()");
    }

    private static void numbersThatCannotBe() {
        Rings.sentence("2 a number that can't be");
        for (String marked : new String[] {"windows |1;", "windows |13;", "handler fixed |0;", "handler fixed |9;",
            "handler double |0;", "handler double |17;", "slice |0;", "slice |51;", "price |100 1;", "price 1 |100;",
            "def f = |10000;", "def f a = a; task f |10000;", "def f a = a; task f - |10000;"}) {
            fault(2, marked);
        }
        // whatever it would be as an int, or as a long
        for (String number : new String[] {"4294967298", "4294967300", "2147483648", "9223372036854775810", "18446744073709551618"}) {
            fault(2, "windows |" + number + ";");
            fault(2, "slice |" + number + ";");
            fault(2, "def f = |" + number + ";");
        }
    }

    private static void toldAlready() {
        Rings.sentence("3 what was told already (windows, handler, slice, price: at that word; a NAME)");
        fault(3, "windows 6; |windows");
        fault(3, "handler single; |handler single;");
        fault(3, "slice 8; |slice;");
        fault(3, "price 1 1; |price 99999");
        fault(3, "def f = 1; def |f = 1;");
        fault(3, "def f = 1; def g = 1; def |f a = 1;");
        fault(3, "def f a |a = 1;");
        fault(3, "def f |f = 1;");
        fault(3, "def f = 1; def g |f = 1;");
    }

    private static void namesNotTold() {
        Rings.sentence("4 a NAME that none told ahead has (or this one), or not of that sort");
        fault(4, "def f a = |b;");
        fault(4, "def f a = |b(1);");
        fault(4, "def f a = f(|b);");
        fault(4, "def ff a = |f(1);");
        fault(4, "def f a = |ff(1);");
        fault(4, "def fa aa = |ab;");
        fault(4, "def f a = a; def g b = |a;");
        fault(4, "def f a = a; task |ff 1;");
        fault(4, "def f a = a; task |a 1;");
        fault(4, "def f a = |a(1);");
        fault(4, "def f a = |f;");
        fault(4, "def f a = 1; def g a = |f + 1;");
        good(1, "def f a = a; def g b = f(b); task g 1;");
    }

    private static void oneTooMany() {
        Rings.sentence("5 one too many (a FUNCTION, a TASK: at the line's word; a PARAMETER;");
        fault(5, "def a=1;def b=1;def c=1;def d=1;def e=1;def f=1; |def g=1;");
        fault(5, "def a=1;task a;task a;task a;task a; |task a;");
        fault(5, "def f a b c d |e = 1;");
        Rings.sentence("a unit too many, or a unit, an if within 6 others, at its first TOKEN)");
        fault(5, "def f a = a" + "+a".repeat(79) + "+ |f(a);");
        fault(5, "def f a = ------ |f(a);");
        fault(5, "def f a = ((((((|-a))))));");
        fault(5, "def f a = (((((( |if a = 1 then 1 else 2))))));");
    }

    private static void tooFewGiven() {
        Rings.sentence("or too few, too many e or numbers (at the ) behind a ( or , or an e");
        fault(5, "def f a = f(|);");
        fault(5, "def f a b = f( |);");
        fault(5, "def f a b = f(1, |);");
        fault(5, "def f a b c = f(1, 2,|);");
        fault(5, "def f a b = f(1|);");
        fault(5, "def f a b = f((1)|);");
        fault(5, "def f a b = f(if a = b then a else b|);");
        fault(5, "def f a b c d = f(1, 2, 3|);");
        fault(5, "def f a b = f(f(1, 2)|);");
        fault(5, "def f a b = f(f(1|), 2);");
        Rings.sentence("or the ; that stands where one more must");
        fault(5, "def f a = a; task f|;");
        fault(5, "def f a b = a; task f 1|;");
        fault(5, "def f a b c d = a; task f 1 2 -3|;");
        fault(5, "def f a b c d = a; task f |;");
    }

    private static void tooManyGiven() {
        Rings.sentence("or at the first that is too many: of e the , ahead of it");
        fault(5, "def f a = f(1|, 2);");
        fault(5, "def f a = f(1 |,);");
        fault(5, "def f a b = f(1, 2|, 3, 4);");
        fault(5, "def f a b c d = f(1, 2, 3, 4|, 5);");
        fault(5, "def f a = f(f(1|, 2));");
        fault(5, "def f a = a; task f 1 |2;");
        fault(5, "def f a = a; task f 1 |-2;");
        fault(5, "def f a = a; task f 1 |-;");
        fault(5, "def f a = a; task f 1 |9999 3;");
        fault(5, "def f = 1; task f |0;");
        fault(5, "def f a b c d = a; task f 1 2 3 4 |5;");
        Rings.sentence("of a FUNCTION without PARAMETERS its own first TOKEN)");
        for (String given : new String[] {"1", "a", "(1)", "-1", "if 1 = 1 then 1 else 1", "f()", "g(1)", "1, 2"}) {
            fault(5, "def f = 1; def g a = f( |" + given + ");");
        }
        good(0, "def f = 1; def g a = f( );");
    }

    private static void numbersThatWrap() {
        Rings.sentence("Numbers are ints that wrap");
        WindowRing ring = good(0, "def p a b = a + b; def m a b = a - b; def t a b = a * b; def n a = -a;");
        int[] edges = {0, 1, -1, 2, -2, 7, -7, 46341, -46341, 65536, Integer.MAX_VALUE, Integer.MAX_VALUE - 1, Integer.MIN_VALUE,
            Integer.MIN_VALUE + 1};
        int[] some = {0, 1, -1, Integer.MAX_VALUE, Integer.MIN_VALUE, 46341, 7};
        for (int a : edges) {
            for (int b : some) {
                due(a + " + " + b, (int) ((long) a + b), ring.plain(0, a, b, 0, 0));
                due(a + " - " + b, (int) ((long) a - b), ring.plain(1, a, b, 0, 0));
                due(a + " * " + b, (int) ((long) a * b), ring.plain(2, a, b, 0, 0));
            }
            due("- " + a, (int) -(long) a, ring.plain(3, a, 0, 0, 0));
        }
        ring = good(0, "def l a b = if a < b then 1 else 0; def g a b = if a > b then 1 else 0; def e a b = if a = b then 1 else 0;");
        for (int a : some) {
            for (int b : some) {
                due(a + " < " + b, a < b ? 1 : 0, ring.plain(0, a, b, 0, 0));
                due(a + " > " + b, a > b ? 1 : 0, ring.plain(1, a, b, 0, 0));
                due(a + " = " + b, a == b ? 1 : 0, ring.plain(2, a, b, 0, 0));
            }
        }
    }

    private static void dividing() {
        Rings.sentence("/ cut, % its rest, both by 0: 0.");
        WindowRing ring = good(0, "def d a b = a / b; def r a b = a % b; def both a b = a / b * b + a % b;");
        int[] edges = {0, 1, -1, 2, -2, 7, -7, Integer.MAX_VALUE, Integer.MIN_VALUE};
        for (int a : edges) {
            for (int b : edges) {
                due(a + " / " + b, b == 0 ? 0 : (int) ((long) a / b), ring.plain(0, a, b, 0, 0));
                due(a + " % " + b, b == 0 ? 0 : (int) ((long) a % b), ring.plain(1, a, b, 0, 0));
                due("both of " + a + ", " + b, b == 0 ? 0 : a, ring.plain(2, a, b, 0, 0));
            }
        }
        due("7 / -2 is cut", -3, ring.plain(0, 7, -2, 0, 0));
        due("-7 / 2 is cut", -3, ring.plain(0, -7, 2, 0, 0));
        due("-7 % 2", -1, ring.plain(1, -7, 2, 0, 0));
        due("7 % -2", 1, ring.plain(1, 7, -2, 0, 0));
        ring = good(1, "def d a b = 5 + a / b + a % b; task d 9 0;");
        due("EVENTS", 2, ring.run(500));
        due("DONE, not FAILED", 2, ring.task(0, 1));
        due("result", 5, ring.result(0));
    }
}
