/** Promises 4 and 5, and the Terms' FAULTS: texts with the FAULT and the place that are due. */
public final class FaultTest {
    private FaultTest() {
    }

    public static void main(String[] args) {
        tokens();
        numbers();
        toldAgain();
        names();
        tooMany();
        tooFewOrManyGiven();
        leastOfOnePlace();
        limitsOfUnits();
        goodTexts();
        Rings.finish("FaultTest");
    }

    private static void fault(int code, String marked) {
        Rings.fault(code, marked);
    }

    private static WindowRing good(int tasks, String text) {
        return Rings.good(tasks, text);
    }

    private static void tokens() {
        fault(1, "|;");
        fault(1, "|f");
        fault(1, "|single;");
        fault(1, "windows 6;|7");
        fault(1, "windows|");
        fault(1, "windows 6|");
        fault(1, "windows 6 \n  |");
        fault(1, "windows 6 |7;");
        fault(1, "windows |six;");
        fault(1, "windows |- 6;");
        fault(1, "|Windows 6;");
        fault(1, "windows 6;|\t");
        fault(1, "windows 6;|\r");
        fault(1, "windows 6;|" + (char) 0);
        fault(1, "windows 6;|" + (char) 200);
        fault(1, "|windowss 6;");
        fault(1, "handler |fast;");
        fault(1, "handler |3;");
        fault(1, "handler fixed|;");
        fault(1, "handler single |1;");
        fault(1, "handler counter |1;");
        fault(1, "handler double |counter;");
        fault(1, "price 1|;");
        fault(1, "price 1 2 |3;");
        fault(1, "def |1 = 1;");
        fault(1, "def |if = 1;");
        fault(1, "def |single = 1;");
        fault(1, "def f |counter = 1;");
        fault(1, "def f a|;");
        fault(1, "def f a |1 = 1;");
        fault(1, "def f a =|;");
        fault(1, "def f a = a |a;");
        fault(1, "def f a = a +|;");
        fault(1, "def f a = a + |if a = 1 then 1 else 2;");
        fault(1, "def f a = |* a;");
        fault(1, "def f a = (a|;");
        fault(1, "def f a = a|);");
        fault(1, "def f a = (|);");
        fault(1, "def f a = f(a +|);");
        fault(1, "def f a = f(|,a);");
        fault(1, "def f a = f(|;");
        fault(1, "def f a = f(a|;");
        fault(1, "def f a b = f(a|;");
        fault(1, "def f a b = f(a,|,a);");
        fault(1, "def f = f(|,1);");
        fault(1, "def f a = a|, a;");
        fault(1, "def f a = if a |then 1 else 2;");
        fault(1, "def f a = if a = 1 |1 else 2;");
        fault(1, "def f a = if a = 1 then 1|;");
        fault(1, "def f a = if a = 1 |= 1 then 1 else 2;");
        fault(1, "def f a = if |if a = 1 then 1 else 2 = 1 then 1 else 2;");
        fault(1, "def f a = a |= a;");
        fault(1, "def f a = |then;");
        fault(1, "def f a = a |& a;");
        fault(1, "def f a = a; task |5;");
        fault(1, "def f a = a; task |def 5;");
        fault(1, "def f a = a; task f |a;");
        fault(1, "def f a = a; task f -|;");
        fault(1, "def f a = a; task f - |- 1;");
        fault(1, "def f a = a; task f |+ 1;");
        fault(1, "def f a = a; task f 1 |a;");
        fault(1, "def f a = a; task f|");
        fault(1, "def f a = a; task f 1|");
    }

    private static void numbers() {
        fault(2, "windows |1;");
        fault(2, "windows |13;");
        fault(2, "windows |99999999999999999999;");
        fault(2, "windows |4294967300;");
        fault(2, "handler fixed |0;");
        fault(2, "handler fixed |9;");
        fault(2, "handler double |0;");
        fault(2, "handler double |17;");
        fault(2, "slice |0;");
        fault(2, "slice |51;");
        fault(2, "price |100 1;");
        fault(2, "price 1 |100;");
        fault(2, "def f = |10000;");
        fault(2, "def f a = a; task f |10000;");
        fault(2, "def f a = a; task f - |10000;");
    }

    private static void toldAgain() {
        fault(3, "windows 6; |windows 6;");
        fault(3, "handler single; |handler 9;");
        fault(3, "slice 1; windows 3; |slice 1;");
        fault(3, "price 1 1; |price;");
        fault(3, "def f = 1; def |f = 2;");
        fault(3, "def f |f = 1;");
        fault(3, "def f a b |a = 1;");
        fault(3, "def f = 1; def g a |f = 1;");
    }

    private static void names() {
        fault(4, "def f a = |b;");
        fault(4, "def f a = |g(a);");
        fault(4, "def f a = |a(a);");
        fault(4, "def f a = |f;");
        fault(4, "def f a = |f + 1;");
        fault(4, "def f a = a; def g b = |a;");
        fault(4, "def f a = |g(a); def g a = a;");
        fault(4, "task |f;");
        fault(4, "def f a = a; task |a 1;");
        fault(4, "def f a = a; task |g;");
        fault(4, "def f a = |b &");
    }

    private static void tooMany() {
        fault(5, "def a = 1; def b = 1; def c = 1; def d = 1; def e = 1; def f = 1; |def g = 1;");
        fault(5, "def f = 1; task f; task f; task f; task f; |task f;");
        fault(5, "def f a b c d |e = 1;");
        fault(3, "def f a b c d |a = 1;");
    }

    private static void tooFewOrManyGiven() {
        fault(5, "def f a = f(|);");
        fault(5, "def f a b = f(a|);");
        fault(5, "def f a b = f(a,|);");
        fault(5, "def f a b = f(1 + 1|);");
        fault(5, "def f a = f(1|,2);");
        fault(5, "def f a = f(1|,);");
        fault(5, "def f = f(|1);");
        fault(5, "def f = f(|(1));");
        fault(5, "def f = f(|-1);");
        fault(5, "def f = f(|if 1 = 1 then 1 else 1);");
        fault(5, "def f = f(|f());");
        fault(5, "def f a b = a; def g = f(f(1,2)|);");
        fault(5, "def f a = a; task f|;");
        fault(5, "def f a b = a; task f 1|;");
        fault(5, "def f a = a; task f 1 |2;");
        fault(5, "def f a = a; task f 1 |- 2;");
        fault(5, "def f a = a; task f 1 |9999;");
        fault(5, "def f = 1; task f |1;");
    }

    private static void leastOfOnePlace() {
        fault(4, "def f = f(|x);");
        fault(4, "def f = f(|f);");
        fault(2, "def f = f(|10000);");
        fault(1, "def f = f(|then);");
        fault(1, "def f = f(|;");
        fault(2, "def f a = a; task f 1 |10000;");
        fault(5, "def f a = a; task f 1 |- 10000;");
        fault(5, "def f a = a; task f 1 |-;");
        fault(2, "def f a = ((((((|10000))))));");
        fault(4, "def f a = ((((((|b))))));");
        fault(1, "def f a = ((((((|))))));");
    }

    private static void limitsOfUnits() {
        fault(5, "def f a = ((((((|a))))));");
        fault(5, "def f a = ------|a;");
        fault(5, "def f a = f(f(f(f(f(f(|a))))));");
        fault(5, "def f a = ((((((|if a = 1 then 1 else 2))))));");
        fault(5, "def f a = if a = 1 then 1 else if a = 2 then 2 else if a = 3 then 3 else if a = 4 then 4 else "
            + "if a = 5 then 5 else if |a = 6 then 6 else 7;");
        fault(5, "def f a = (-f(if a = 1 then (-|a) else 1));");
        String eighty = "def f a = a" + "+a".repeat(79);
        fault(5, eighty + "+|a;");
        fault(5, eighty + "; def g = |1;");
        fault(5, eighty + "+|(a);");
        fault(4, eighty + "+|b;");
        fault(2, eighty + "+|10000;");
        fault(1, eighty + "+|;");
        Rings.due("units", 80, good(0, eighty + ";").about(17));
        Rings.due("units", 8, good(0, "def f a = (((((1))))) - -1;").about(17));
        Rings.due("units", 6, good(0, "def f a = if a > 1 then f(a - 1) else 1;").about(17));
    }

    private static void goodTexts() {
        good(0, "");
        good(0, " \n ");
        good(0, "windows 2;handler single;slice 1;price 0 0;");
        good(0, "windows 12;handler fixed 8;slice 50;price 99 99;");
        good(0, "windows 0012;handler double 16;");
        good(0, "def f a b c d = a;");
        good(0, "def f a = a; def g a = f(a);");
        good(0, "def f a = a; def a = 1;");
        good(0, "def f = f();");
        good(0, "def f a = (((((a)))));");
        good(0, "def f a = -----a;");
        good(0, "def f a = if a = 1 then 1 else if a = 2 then 2 else if a = 3 then 3 else if a = 4 then 4 else "
            + "if a = 5 then 5 else 6;");
        good(4, "def f = 1; task f; task f;task f;\ntask\nf\n;");
        good(1, "def f a b=a-b;task f-1-2;");
        good(1, "def f a b c d=9999;task f 9999 - 9999 0 -0;");
        good(2, "def fa a = a; def fb a = a; def gb fc fd gd = fc; task fb 1; task gb 1 2 3;");
        good(0, "def windowss windo = windo; def iff f = f; def e sum = sum;");
        WindowRing six = good(0, "def a=1;def b=1;def c=1;def d=1;def e=1;def f=1;");
        Rings.due("functions", 6, six.about(1));
    }
}
