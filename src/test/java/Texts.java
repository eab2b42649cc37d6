import java.util.ArrayList;
import java.util.List;
import java.util.Random;

/** STOREs by chance, from a seed: good ones, and such as were spoilt at one place or some. */
final class Texts {
    private static final String[] NAMES = {"f", "g", "h", "k", "fib", "go", "ack", "sum"};
    private static final String[] PARAMETERS = {"a", "b", "c", "d", "n", "x", "left"};
    private static final String[] PIECES = {";", "=", "(", ")", ",", "+", "-", "*", "/", "%", "<", ">", "if", "then", "else",
        "def", "task", "windows", "handler", "slice", "price", "single", "fixed", "counter", "double", "f", "g", "a", "n",
        "0", "1", "7", "12", "13", "50", "51", "99", "100", "9999", "10000", "99999999999", "()", "f(", "g(1", "1,", ",)",
        "((((((", "------", "\n", "A", "\t", "!", ""};

    private final Random random;
    private final List<String> functions = new ArrayList<>();
    private final List<Integer> counts = new ArrayList<>();
    private int units;

    Texts(Random random) {
        this.random = random;
    }

    String good() {
        functions.clear();
        counts.clear();
        units = 0;
        StringBuilder text = new StringBuilder();
        List<String> settings = new ArrayList<>();
        if (random.nextInt(3) > 0) {
            settings.add("windows " + (2 + random.nextInt(random.nextBoolean() ? 4 : 11)) + ";");
        }
        if (random.nextInt(3) > 0) {
            settings.add("handler " + way() + ";");
        }
        if (random.nextInt(3) > 0) {
            settings.add("slice " + (1 + random.nextInt(random.nextBoolean() ? 6 : 50)) + ";");
        }
        if (random.nextInt(3) > 0) {
            settings.add("price " + random.nextInt(100) + " " + random.nextInt(random.nextBoolean() ? 4 : 100) + ";");
        }
        int tasks = 0;
        int lines = 1 + random.nextInt(6);
        for (int i = 0; i < lines; i++) {
            while (!settings.isEmpty() && random.nextBoolean()) {
                text.append(settings.remove(random.nextInt(settings.size()))).append(blank());
            }
            text.append(function(i)).append(blank());
            while (tasks < 4 && random.nextInt(3) > 0) {
                tasks++;
                text.append(task());
            }
        }
        while (tasks < 4 && random.nextInt(3) > 0) {
            tasks++;
            text.append(task());
        }
        for (String setting : settings) {
            text.append(setting);
        }
        return text.toString();
    }

    String spoilt() {
        if (random.nextBoolean()) {
            return swapped(good());
        }
        StringBuilder text = new StringBuilder(good());
        int times = 1 + random.nextInt(3);
        for (int i = 0; i < times; i++) {
            int from = random.nextInt(text.length() + 1);
            int past = Math.min(text.length(), from + random.nextInt(random.nextInt(8) == 0 ? 40 : 4));
            String piece = PIECES[random.nextInt(PIECES.length)];
            text.replace(from, past, random.nextBoolean() ? piece : " " + piece + " ");
        }
        return text.length() > 1000 ? text.substring(0, 1000) : text.toString();
    }

    /** The text with some TOKENS in another one's place: a number for a number, a word for a word, a sign for a sign. */
    private String swapped(String text) {
        List<String> tokens = new ArrayList<>();
        java.util.regex.Matcher matcher = java.util.regex.Pattern.compile("[a-z]+|[0-9]+|.", java.util.regex.Pattern.DOTALL)
            .matcher(text);
        while (matcher.find()) {
            tokens.add(matcher.group());
        }
        int times = 1 + random.nextInt(2);
        for (int i = 0; i < times; i++) {
            int at = random.nextInt(tokens.size());
            String token = tokens.get(at);
            if (token.matches("[0-9]+")) {
                String[] numbers = {"0", "1", "8", "9", "12", "13", "16", "17", "50", "51", "99", "100", "9999", "10000"};
                tokens.set(at, numbers[random.nextInt(numbers.length)]);
            } else if (token.matches("[a-z]+")) {
                String[] words = {NAMES[random.nextInt(NAMES.length)], PARAMETERS[random.nextInt(PARAMETERS.length)],
                    functions.get(random.nextInt(functions.size())), "if", "windows", "zz"};
                tokens.set(at, words[random.nextInt(words.length)]);
            } else if (token.equals(",")) {
                tokens.set(at, random.nextBoolean() ? ",1," : random.nextBoolean() ? ",)" : "+");
            } else if (token.equals("(")) {
                tokens.set(at, random.nextBoolean() ? "()" : random.nextBoolean() ? "(1," : "((((");
            } else if (token.equals(";")) {
                String[] ends = {" 1;", " -2;", ";;", ";task " + functions.get(0) + ";", ";slice 3;price 1 2;", ";windows 4;"};
                tokens.set(at, ends[random.nextInt(ends.length)]);
            } else if (token.equals("=")) {
                tokens.set(at, random.nextBoolean() ? " a b c d e =" : "=(((((((((1+");
            } else if (token.matches("[-+*/%]")) {
                tokens.set(at, random.nextBoolean() ? "+------" : "+1".repeat(random.nextInt(90)) + "-");
            }
        }
        String spoilt = String.join("", tokens);
        return spoilt.length() > 980 ? spoilt.substring(0, 980) : spoilt;
    }

    private String blank() {
        return random.nextInt(4) == 0 ? "\n" : random.nextInt(2) == 0 ? " " : "";
    }

    private String way() {
        switch (random.nextInt(4)) {
            case 0: return "single";
            case 1: return "fixed " + (1 + random.nextInt(8));
            case 2: return "counter";
            default: return "double " + (1 + random.nextInt(16));
        }
    }

    private String task() {
        int function = random.nextInt(functions.size());
        StringBuilder text = new StringBuilder("task " + functions.get(function));
        for (int i = 0; i < counts.get(function); i++) {
            int most = random.nextInt(8) == 0 ? 70 : 14;
            text.append(random.nextInt(6) == 0 ? " -" : " ").append(random.nextInt(40) == 0 ? 9999 : random.nextInt(most));
        }
        return text.append(";").append(blank()).toString();
    }

    private String function(int i) {
        String name = NAMES[i];
        int count = random.nextInt(10) == 0 ? 0 : 1 + random.nextInt(random.nextBoolean() ? 2 : 4);
        List<String> parameters = new ArrayList<>();
        int shift = random.nextInt(PARAMETERS.length);
        for (int p = 0; p < count; p++) {
            parameters.add(PARAMETERS[(shift + p) % PARAMETERS.length]);
        }
        functions.add(name);
        counts.add(count);
        StringBuilder text = new StringBuilder("def " + name);
        for (String parameter : parameters) {
            text.append(" ").append(parameter);
        }
        text.append(random.nextBoolean() ? " = " : "=");
        int sort = random.nextInt(20);
        if (count > 0 && sort < 14) {
            text.append(recursive(i, parameters));
        } else {
            text.append(formula(i, parameters, 0, sort == 19, 3));
        }
        return text.append(";").toString();
    }

    private String recursive(int function, List<String> parameters) {
        String first = parameters.get(0);
        units += 3;
        String guard = random.nextInt(5) == 0 ? first + " = 0" : first + " < " + (1 + random.nextInt(2));
        StringBuilder text = new StringBuilder("if " + guard + " then " + formula(function - 1, parameters, 1, false, 1));
        text.append(" else ");
        int calls = 1 + random.nextInt(random.nextInt(4) == 0 ? 3 : 2);
        for (int i = 0; i < calls; i++) {
            if (i > 0) {
                text.append("+-*%".charAt(random.nextInt(4)));
            }
            if (random.nextInt(3) == 0) {
                units++;
                text.append(parameters.get(random.nextInt(parameters.size()))).append(random.nextBoolean() ? " + " : "-");
            }
            text.append(selfCall(function, parameters, 1 + i, random.nextInt(5) == 0));
        }
        return text.toString();
    }

    private String selfCall(int function, List<String> parameters, int less, boolean nested) {
        units += 3;
        StringBuilder text = new StringBuilder(functions.get(function)).append("(").append(parameters.get(0));
        text.append(random.nextInt(4) == 0 ? " / 2" : " - " + less);
        for (int p = 1; p < parameters.size(); p++) {
            text.append(",");
            if (nested && p == 1) {
                text.append(selfCall(function, parameters, less, false));
            } else {
                text.append(formula(function - 1, parameters, 3, false, 1));
            }
        }
        return text.append(")").toString();
    }

    /** A formula that may call the functions up to the last one told (without its own, where it shall not). */
    private String formula(int last, List<String> parameters, int others, boolean self, int size) {
        int choice = random.nextInt(10);
        int callable = self ? last + 1 : last;
        if (others >= 4 || size <= 0 || units > 60 || choice < 3) {
            units++;
            if (!parameters.isEmpty() && random.nextInt(3) > 0) {
                return parameters.get(random.nextInt(parameters.size()));
            }
            return String.valueOf(random.nextInt(5) == 0 ? random.nextInt(10000) : random.nextInt(5));
        }
        if (choice < 6 && callable > 0) {
            int function = random.nextInt(callable);
            units++;
            StringBuilder text = new StringBuilder(functions.get(function)).append("(");
            for (int i = 0; i < counts.get(function); i++) {
                text.append(i > 0 ? "," : "").append(formula(last, parameters, others + 1, self, size - 1));
            }
            return text.append(")").toString();
        }
        if (choice == 6) {
            return "(if " + inner(last, parameters, others + 2, self, size) + "<>=".charAt(random.nextInt(3))
                + inner(last, parameters, others + 2, self, size) + " then " + formula(last, parameters, others + 2, self, size - 1)
                + " else " + formula(last, parameters, others + 2, self, size - 1) + ")";
        }
        if (choice == 7) {
            units++;
            return "-" + inner(last, parameters, others + 1, self, size);
        }
        return inner(last, parameters, others, self, size) + "+-*/%".charAt(random.nextInt(5))
            + inner(last, parameters, others, self, size);
    }

    private String inner(int last, List<String> parameters, int others, boolean self, int size) {
        units++;
        return random.nextInt(3) == 0 ? "(" + formula(last, parameters, others + 1, self, size - 1) + ")"
            : formula(last, parameters, 9, self, 0);
    }
}
