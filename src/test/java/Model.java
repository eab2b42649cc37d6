import java.util.ArrayList;
import java.util.HashMap;
import java.util.List;
import java.util.Map;

/**
 * A second telling of the document, slow and plain, against which WindowRing is tried: formulas are trees walked by
 * Java's own recursion, each TASK's EVENTS are listed ahead, each ACT keeps a whole copy.
 */
final class Model {
    static final int NONE = -1;
    static final int TRACE = 60000;

    // ---- the STORE as a tree

    interface Tree {
        int value(Walk walk, int[] frame);
    }

    static final class Function {
        String name;
        List<String> parameters = new ArrayList<>();
        Tree body;
    }

    static final class Store {
        int windows = 6, way = 0, n = 0, slice = 8, trap = 10, move = 1, units = 0;
        List<Function> functions = new ArrayList<>();
        List<Integer> taskFunctions = new ArrayList<>();
        List<int[]> taskNumbers = new ArrayList<>();
    }

    static final class Token {
        String text;
        int place;
        char sort; // w word, n number, s sign, e end, x none
    }

    static final class Stop extends RuntimeException {
        private static final long serialVersionUID = 1L;

        Stop() {
            super(null, null, false, false);
        }
    }

    /** Goes on behind a FAULT where it can, lists them all, and tells the least of the first place. */
    static final class Parser {
        static final String WORDS = " windows handler slice price def task single fixed counter double if then else ";
        final List<Token> tokens = new ArrayList<>();
        final Store store = new Store();
        final List<String> told = new ArrayList<>();
        int at = 0;
        int fault = 0;
        int place = NONE;

        Parser(String text) {
            int i = 0;
            while (i < text.length()) {
                char c = text.charAt(i);
                if (c == ' ' || c == '\n') {
                    i++;
                    continue;
                }
                Token token = new Token();
                token.place = i;
                int j = i + 1;
                if (c >= 'a' && c <= 'z') {
                    token.sort = 'w';
                    while (j < text.length() && text.charAt(j) >= 'a' && text.charAt(j) <= 'z') {
                        j++;
                    }
                } else if (c >= '0' && c <= '9') {
                    token.sort = 'n';
                    while (j < text.length() && text.charAt(j) >= '0' && text.charAt(j) <= '9') {
                        j++;
                    }
                } else {
                    token.sort = ";=(),+-*/%<>".indexOf(c) >= 0 ? 's' : 'x';
                }
                token.text = text.substring(i, j);
                tokens.add(token);
                i = j;
            }
            Token last = new Token();
            last.place = text.length();
            last.sort = 'e';
            last.text = "";
            tokens.add(last);
            try {
                while (peek().sort != 'e') {
                    line();
                }
            } catch (Stop stop) {
                // the FAULTS found so far are listed
            }
        }

        void note(int code, int where) {
            if (fault == 0 || where < place || where == place && code < fault) {
                fault = code;
                place = where;
            }
        }

        Token peek() {
            return tokens.get(at);
        }

        boolean is(String text) {
            return peek().sort != 'e' && peek().text.equals(text);
        }

        boolean isName() {
            return peek().sort == 'w' && !WORDS.contains(" " + peek().text + " ");
        }

        Stop stop() {
            note(1, peek().place);
            return new Stop();
        }

        void want(String text) {
            if (!is(text)) {
                throw stop();
            }
            at++;
        }

        int number(int low, int high) {
            if (peek().sort != 'n') {
                throw stop();
            }
            java.math.BigInteger big = new java.math.BigInteger(peek().text);
            boolean good = big.compareTo(java.math.BigInteger.valueOf(low)) >= 0
                && big.compareTo(java.math.BigInteger.valueOf(high)) <= 0;
            if (!good) {
                note(2, peek().place);
            }
            at++;
            return good ? big.intValue() : low;
        }

        void line() {
            Token word = peek();
            if (is("windows") || is("handler") || is("slice") || is("price")) {
                if (told.contains(word.text)) {
                    note(3, word.place);
                }
                told.add(word.text);
                at++;
                setting(word.text);
            } else if (is("def")) {
                if (store.functions.size() == 6) {
                    note(5, word.place);
                    throw new Stop();
                }
                at++;
                def();
            } else if (is("task")) {
                if (store.taskFunctions.size() == 4) {
                    note(5, word.place);
                }
                at++;
                task();
            } else {
                throw stop();
            }
            want(";");
        }

        void setting(String word) {
            if (word.equals("windows")) {
                store.windows = number(2, 12);
            } else if (word.equals("slice")) {
                store.slice = number(1, 50);
            } else if (word.equals("price")) {
                store.trap = number(0, 99);
                store.move = number(0, 99);
            } else if (is("single")) {
                at++;
            } else if (is("counter")) {
                at++;
                store.way = 2;
            } else if (is("fixed")) {
                at++;
                store.way = 1;
                store.n = number(1, 8);
            } else if (is("double")) {
                at++;
                store.way = 3;
                store.n = number(1, 16);
            } else {
                throw stop();
            }
        }

        int functionOf(String name) {
            for (int i = 0; i < store.functions.size(); i++) {
                if (store.functions.get(i).name.equals(name)) {
                    return i;
                }
            }
            return NONE;
        }

        void def() {
            if (!isName()) {
                throw stop();
            }
            if (functionOf(peek().text) >= 0) {
                note(3, peek().place);
                throw new Stop();
            }
            Function function = new Function();
            function.name = peek().text;
            store.functions.add(function);
            at++;
            while (isName()) {
                String name = peek().text;
                if (functionOf(name) >= 0 || function.parameters.contains(name)) {
                    note(3, peek().place);
                }
                if (function.parameters.size() >= 4) {
                    note(5, peek().place);
                }
                function.parameters.add(name);
                at++;
            }
            want("=");
            function.body = e(function, 0);
        }

        void task() {
            if (!isName()) {
                throw stop();
            }
            int function = functionOf(peek().text);
            if (function < 0) {
                note(4, peek().place);
                throw new Stop();
            }
            at++;
            int wanted = store.functions.get(function).parameters.size();
            int[] numbers = new int[4];
            int count = 0;
            while (peek().sort == 'n' || is("-")) {
                if (count >= wanted) {
                    note(5, peek().place);
                }
                boolean minus = is("-");
                if (minus) {
                    at++;
                }
                int number = number(0, 9999);
                if (count < wanted && count < 4) {
                    numbers[count] = minus ? -number : number;
                }
                count++;
            }
            if (is(";") && count < wanted) {
                note(5, peek().place);
            }
            store.taskFunctions.add(function);
            store.taskNumbers.add(numbers);
        }

        Tree e(Function in, int others) {
            if (!is("if")) {
                return sum(in, others);
            }
            if (others >= 6) {
                note(5, peek().place);
            }
            at++;
            Tree left = sum(in, others + 1);
            if (!is("<") && !is(">") && !is("=")) {
                throw stop();
            }
            char sign = peek().text.charAt(0);
            at++;
            Tree right = sum(in, others + 1);
            want("then");
            Tree yes = e(in, others + 1);
            want("else");
            Tree no = e(in, others + 1);
            return (walk, frame) -> {
                int l = left.value(walk, frame);
                int r = right.value(walk, frame);
                boolean chosen = sign == '<' ? l < r : sign == '>' ? l > r : l == r;
                return chosen ? yes.value(walk, frame) : no.value(walk, frame);
            };
        }

        Tree sum(Function in, int others) {
            Tree tree = term(in, others);
            while (is("+") || is("-")) {
                boolean plus = is("+");
                at++;
                Tree left = tree;
                Tree right = term(in, others);
                tree = (walk, frame) -> {
                    int l = left.value(walk, frame);
                    int r = right.value(walk, frame);
                    return plus ? l + r : l - r;
                };
            }
            return tree;
        }

        Tree term(Function in, int others) {
            Tree tree = unit(in, others);
            while (is("*") || is("/") || is("%")) {
                char sign = peek().text.charAt(0);
                at++;
                Tree left = tree;
                Tree right = unit(in, others);
                tree = (walk, frame) -> {
                    long l = left.value(walk, frame);
                    long r = right.value(walk, frame);
                    return (int) (sign == '*' ? l * r : r == 0 ? 0 : sign == '/' ? l / r : l % r);
                };
            }
            return tree;
        }

        Tree unit(Function in, int others) {
            Token first = peek();
            store.units++;
            if (first.sort != 'n' && !isName() && !is("(") && !is("-")) {
                throw stop();
            }
            if (store.units > 80 || others >= 6) {
                note(5, first.place);
            }
            if (first.sort == 'n') {
                int number = number(0, 9999);
                return (walk, frame) -> number;
            }
            at++;
            if (first.text.equals("(")) {
                Tree inner = e(in, others + 1);
                want(")");
                return inner;
            }
            if (first.text.equals("-")) {
                Tree inner = unit(in, others + 1);
                return (walk, frame) -> -inner.value(walk, frame);
            }
            if (is("(")) {
                return call(in, first, others);
            }
            int parameter = in.parameters.indexOf(first.text);
            if (parameter < 0) {
                note(4, first.place);
            }
            return (walk, frame) -> frame[parameter];
        }

        Tree call(Function in, Token name, int others) {
            int function = functionOf(name.text);
            if (function < 0) {
                note(4, name.place);
                throw new Stop();
            }
            int wanted = store.functions.get(function).parameters.size();
            at++;
            List<Tree> given = new ArrayList<>();
            if (is(")")) {
                if (wanted > 0) {
                    note(5, peek().place);
                }
                at++;
            } else {
                if (wanted == 0 && startsFormula()) {
                    note(5, peek().place);
                }
                given.add(e(in, others + 1));
                while (is(",")) {
                    if (given.size() >= wanted) {
                        note(5, peek().place);
                    }
                    at++;
                    if (is(")") && given.size() < wanted) {
                        note(5, peek().place);
                        throw new Stop();
                    }
                    given.add(e(in, others + 1));
                }
                if (is(")") && given.size() < wanted) {
                    note(5, peek().place);
                }
                want(")");
            }
            return (walk, frame) -> {
                int[] numbers = new int[4];
                for (int i = 0; i < given.size(); i++) {
                    numbers[i] = given.get(i).value(walk, frame);
                }
                return walk.call(function, numbers);
            };
        }

        boolean startsFormula() {
            return is("if") || is("(") || is("-") || peek().sort == 'n' || isName();
        }
    }

    // ---- plain recursion, listed

    static final class Event {
        char kind; // b begin, c call, r return, f fail
        int function;
        int[] numbers;
        int frames;
    }

    static final class Walk {
        final Store store;
        final int most;
        final List<Event> events = new ArrayList<>();
        int frames = 0;
        boolean whole = false;
        int outcome = 0;

        Walk(Store store, int function, int[] numbers, int most) {
            this.store = store;
            this.most = most;
            try {
                outcome = call(function, numbers);
                whole = true;
            } catch (Stop stop) {
                // it FAILED, or takes too many EVENTS
            }
        }

        void list(char kind, int function, int[] numbers) {
            if (events.size() >= most) {
                throw new Stop();
            }
            Event event = new Event();
            event.kind = kind;
            event.function = function;
            event.numbers = numbers;
            event.frames = frames;
            events.add(event);
        }

        int call(int function, int[] numbers) {
            if (frames == 60) {
                list('f', function, numbers);
                throw new Stop();
            }
            frames++;
            list(frames == 1 ? 'b' : 'c', function, numbers);
            int value = store.functions.get(function).body.value(this, numbers);
            frames--;
            list('r', function, null);
            return value;
        }
    }

    // ---- what ACTS change

    static final class TaskState {
        int condition = 0, done = 0, most = 0, counter = 1, guess = 0, over = 0, under = 0, spilled = 0, filled = 0;
        int inStack = 0;
        List<int[]> frames = new ArrayList<>();

        TaskState copy() {
            TaskState c = new TaskState();
            c.condition = condition;
            c.done = done;
            c.most = most;
            c.counter = counter;
            c.guess = guess;
            c.over = over;
            c.under = under;
            c.spilled = spilled;
            c.filled = filled;
            c.inStack = inStack;
            c.frames = new ArrayList<>(frames);
            return c;
        }
    }

    static final class State {
        int way, n, trap, move, slice, turn, turnEvents = 0, events = 0, moves = 0, used = NONE;
        int[][] windows;
        List<TaskState> tasks = new ArrayList<>();
        List<int[]> traps = new ArrayList<>();

        State copy() {
            State c = new State();
            c.way = way;
            c.n = n;
            c.trap = trap;
            c.move = move;
            c.slice = slice;
            c.turn = turn;
            c.turnEvents = turnEvents;
            c.events = events;
            c.moves = moves;
            c.used = used;
            c.windows = windows.clone();
            for (TaskState task : tasks) {
                c.tasks.add(task.copy());
            }
            c.traps = new ArrayList<>(traps);
            return c;
        }

        int cost() {
            return traps.size() * trap + moves * move;
        }

        int spillGuess(TaskState t) {
            if (way == 0) {
                return 1;
            }
            if (way == 1) {
                return n;
            }
            if (way == 2) {
                int k = t.counter + 1;
                if (t.counter < 3) {
                    t.counter++;
                }
                return k;
            }
            if (t.guess > 0) {
                t.guess = t.guess * 2 > n ? n : t.guess * 2;
            } else {
                t.guess = 1;
            }
            return t.guess;
        }

        int fillGuess(TaskState t) {
            if (way == 0) {
                return 1;
            }
            if (way == 1) {
                return n;
            }
            if (way == 2) {
                int k = 4 - t.counter;
                if (t.counter > 0) {
                    t.counter--;
                }
                return k;
            }
            if (t.guess < 0) {
                t.guess = t.guess * 2 < -n ? -n : t.guess * 2;
            } else {
                t.guess = -1;
            }
            return -t.guess;
        }

        int place(int task, int frame) {
            for (int w = 0; w < windows.length; w++) {
                if (windows[w] != null && windows[w][0] == task && windows[w][1] == frame) {
                    return w;
                }
            }
            return NONE;
        }

        /** An OVERFLOW, if the WINDOW is not FREE. */
        void room(int asking, int window) {
            if (windows[window] == null) {
                return;
            }
            int owner = windows[window][0];
            int k = spillGuess(tasks.get(asking));
            TaskState victim = tasks.get(owner);
            int stays = owner == asking ? 1 : 0;
            int moved = 0;
            while (moved < k && victim.inStack < victim.frames.size() - stays) {
                windows[place(owner, victim.inStack + 1)] = null;
                victim.inStack++;
                victim.spilled++;
                moved++;
            }
            tasks.get(asking).over++;
            trap(0, asking, moved, owner);
        }

        void trap(int sort, int asking, int moved, int owner) {
            traps.add(0, new int[] {sort, asking, moved, owner, events});
            moves += moved;
        }

        int newWindow() {
            return used == NONE ? 0 : (used + 1) % windows.length;
        }

        void event(List<List<Event>> lists) {
            int me = turn;
            TaskState t = tasks.get(me);
            if (t.condition == 1 && t.inStack == t.frames.size()) {
                int w = newWindow();
                room(me, w);
                windows[w] = new int[] {me, t.frames.size()};
                t.inStack--;
                t.filled++;
                t.under++;
                trap(2, me, 1, me);
            }
            Event event = lists.get(me).get(t.done);
            if (event.kind == 'b') {
                used = newWindow();
                room(me, used);
                t.condition = 1;
                t.frames.add(event.numbers);
                windows[used] = new int[] {me, 1};
            } else {
                int w = place(me, t.frames.size());
                if (event.kind == 'c') {
                    used = (w + 1) % windows.length;
                    room(me, used);
                    t.frames.add(event.numbers);
                    windows[used] = new int[] {me, t.frames.size()};
                } else if (event.kind == 'f') {
                    for (int i = 0; i < windows.length; i++) {
                        if (windows[i] != null && windows[i][0] == me) {
                            windows[i] = null;
                        }
                    }
                    t.frames.clear();
                    t.inStack = 0;
                    t.condition = 3;
                    used = w;
                } else {
                    returns(me, w);
                }
            }
            t.most = Math.max(t.most, t.frames.size());
            t.done++;
            events++;
            turnEvents++;
            boolean over = t.condition > 1;
            if (over || turnEvents >= slice) {
                turn = next(me);
                turnEvents = 0;
            }
        }

        void returns(int me, int w) {
            TaskState t = tasks.get(me);
            windows[w] = null;
            t.frames.remove(t.frames.size() - 1);
            if (t.frames.isEmpty()) {
                t.condition = 2;
                used = w;
                return;
            }
            if (t.inStack < t.frames.size()) {
                used = place(me, t.frames.size());
                return;
            }
            int k = fillGuess(t);
            int moved = 0;
            for (int x = w; moved < k && t.inStack > 0 && windows[x] == null; x = (x + windows.length - 1) % windows.length) {
                windows[x] = new int[] {me, t.inStack};
                t.inStack--;
                t.filled++;
                moved++;
            }
            t.under++;
            trap(1, me, moved, me);
            used = w;
        }

        int next(int from) {
            for (int i = 1; i <= tasks.size(); i++) {
                int next = (from + i) % tasks.size();
                if (tasks.get(next).condition < 2) {
                    return next;
                }
            }
            return NONE;
        }
    }

    // ---- the face

    private final StringBuilder tape = new StringBuilder();
    private Store store = new Store();
    private State now = fresh(store);
    private List<List<Event>> lists = new ArrayList<>();
    private final List<State> undone = new ArrayList<>();
    private final List<State> done = new ArrayList<>();
    private final State[] boxes = new State[2];
    private int fault = 0;
    private int faultPlace = NONE;

    private static State fresh(Store store) {
        State s = new State();
        s.way = store.way;
        s.n = store.n;
        s.trap = store.trap;
        s.move = store.move;
        s.slice = store.slice;
        s.turn = store.taskFunctions.isEmpty() ? NONE : 0;
        s.windows = new int[store.windows][];
        for (int i = 0; i < store.taskFunctions.size(); i++) {
            s.tasks.add(new TaskState());
        }
        return s;
    }

    private void act() {
        done.add(now.copy());
        if (done.size() > 12) {
            done.remove(0);
        }
        undone.clear();
    }

    private boolean isTask(int task) {
        return task >= 0 && task < store.taskFunctions.size();
    }

    private static boolean isHandler(int way, int n) {
        return way == 0 || way == 2 || way == 1 && n >= 1 && n <= 8 || way == 3 && n >= 1 && n <= 16;
    }

    private Walk walk(int function, int[] numbers) {
        if (function < 0 || function >= store.functions.size()) {
            return null;
        }
        int[] given = new int[4];
        for (int i = 0; i < store.functions.get(function).parameters.size(); i++) {
            given[i] = numbers[i];
        }
        Walk walk = new Walk(store, function, given, 2000);
        return walk.whole ? walk : null;
    }

    private Walk taskWalk(int task) {
        return isTask(task) ? walk(store.taskFunctions.get(task), store.taskNumbers.get(task)) : null;
    }

    /** Whether some TASK has gone further than its EVENTS are listed. */
    boolean tooFar() {
        for (int i = 0; i < lists.size(); i++) {
            if (now.tasks.get(i).condition < 2 && now.tasks.get(i).done + 3500 > lists.get(i).size()
                && lists.get(i).size() >= TRACE) {
                return true;
            }
        }
        return false;
    }

    int feed(int a, int b, int c, int d, int e) {
        if (tape.length() + 20 > 1000) {
            return NONE;
        }
        for (int number : new int[] {a, b, c, d, e}) {
            java.nio.ByteBuffer buffer = java.nio.ByteBuffer.allocate(4).putInt(number);
            for (byte one : buffer.array()) {
                tape.append((char) (one & 255));
            }
        }
        return tape.length();
    }

    int end(int n) {
        if (n < 0 || n > tape.length()) {
            return NONE;
        }
        tape.setLength(n);
        return n;
    }

    int store() {
        Parser parser = new Parser(tape.toString());
        tape.setLength(0);
        fault = parser.fault;
        faultPlace = parser.place;
        if (fault != 0) {
            return NONE;
        }
        store = parser.store;
        now = fresh(store);
        lists = new ArrayList<>();
        for (int i = 0; i < store.taskFunctions.size(); i++) {
            lists.add(new Walk(store, store.taskFunctions.get(i), store.taskNumbers.get(i), TRACE).events);
        }
        done.clear();
        undone.clear();
        boxes[0] = null;
        boxes[1] = null;
        return store.taskFunctions.size();
    }

    int fault(int what) {
        return what == 0 ? fault : what == 1 ? faultPlace : NONE;
    }

    private int play(State s, int most) {
        int count = 0;
        while (count < most && s.turn != NONE) {
            s.event(lists);
            count++;
        }
        return count;
    }

    int run(int n) {
        if (n < 1 || n > 500) {
            return NONE;
        }
        State copy = now.copy();
        int count = play(copy, n);
        if (count > 0) {
            act();
            now = copy;
        }
        return count;
    }

    private static void handle(State s, int way, int n) {
        s.way = way;
        s.n = way == 1 || way == 3 ? n : 0;
        for (TaskState t : s.tasks) {
            t.counter = 1;
            t.guess = 0;
        }
    }

    boolean handler(int way, int n) {
        if (!isHandler(way, n)) {
            return false;
        }
        act();
        handle(now, way, n);
        return true;
    }

    int price(int trap, int move) {
        if (Math.min(trap, move) < 0 || Math.max(trap, move) > 99) {
            return NONE;
        }
        act();
        now.trap = trap;
        now.move = move;
        return now.cost();
    }

    int slice(int n) {
        if (n < 1 || n > 50) {
            return NONE;
        }
        act();
        int old = now.slice;
        now.slice = n;
        return old;
    }

    boolean again(int task) {
        if (!isTask(task) || now.tasks.get(task).condition < 2) {
            return false;
        }
        act();
        now.tasks.set(task, new TaskState());
        if (now.turn == NONE) {
            now.turn = task;
            now.turnEvents = 0;
        }
        return true;
    }

    boolean undo() {
        if (done.isEmpty()) {
            return false;
        }
        undone.add(now);
        now = done.remove(done.size() - 1);
        return true;
    }

    boolean redo() {
        if (undone.isEmpty()) {
            return false;
        }
        done.add(now);
        now = undone.remove(undone.size() - 1);
        return true;
    }

    int task(int task, int what) {
        if (!isTask(task) || what < 0 || what > 11) {
            return -100;
        }
        TaskState t = now.tasks.get(task);
        return new int[] {store.taskFunctions.get(task), t.condition, t.frames.size(), t.frames.size() - t.inStack, t.done,
            t.most, t.counter, t.guess, t.over, t.under, t.spilled, t.filled}[what];
    }

    int result(int task) {
        if (!isTask(task) || now.tasks.get(task).condition != 2) {
            return 0;
        }
        return new Walk(store, store.taskFunctions.get(task), store.taskNumbers.get(task), TRACE).outcome;
    }

    int window(int window, int what) {
        if (window < 0 || window >= store.windows || what < 0 || what > 1) {
            return -2;
        }
        return now.windows[window] == null ? NONE : now.windows[window][what];
    }

    int register(int window, int i) {
        if (window < 0 || window >= store.windows || now.windows[window] == null || i < 0 || i > 3) {
            return 0;
        }
        return now.tasks.get(now.windows[window][0]).frames.get(now.windows[window][1] - 1)[i];
    }

    int value(int task, int frame, int i) {
        if (!isTask(task) || frame < 1 || frame > now.tasks.get(task).frames.size() || i < 0 || i > 3) {
            return 0;
        }
        return now.tasks.get(task).frames.get(frame - 1)[i];
    }

    int where(int task, int frame) {
        if (!isTask(task) || frame < 1 || frame > now.tasks.get(task).frames.size()) {
            return NONE;
        }
        return frame <= now.tasks.get(task).inStack ? -2 : now.place(task, frame);
    }

    int plain(int function, int a, int b, int c, int d) {
        Walk walk = walk(function, new int[] {a, b, c, d});
        return walk == null ? 0 : walk.outcome;
    }

    int profile(int function, int a, int b, int c, int d, int what) {
        Walk walk = walk(function, new int[] {a, b, c, d});
        if (walk == null) {
            return NONE;
        }
        int most = 0;
        int same = 0;
        for (Event event : walk.events) {
            most = Math.max(most, event.frames);
            same += event.kind == 'c' && event.function == function ? 1 : 0;
        }
        return what == 0 ? walk.events.size() : what == 1 ? most : what == 2 ? same : NONE;
    }

    int depths(int task, int frames) {
        Walk walk = taskWalk(task);
        if (walk == null || frames < 1 || frames > 60) {
            return NONE;
        }
        int count = 0;
        for (Event event : walk.events) {
            count += event.kind != 'r' && event.frames == frames ? 1 : 0;
        }
        return count;
    }

    /** A TASK alone, told by counting: how many FRAMES are in WINDOWS is all that matters then. */
    int alone(int task, int way, int n, int what) {
        Walk walk = taskWalk(task);
        if (walk == null || !isHandler(way, n) || what < 0 || what > 2) {
            return NONE;
        }
        int[] counts = aloneCounts(walk, way, n, store.windows);
        return what == 0 ? counts[0] * now.trap + counts[1] * now.move : counts[what - 1];
    }

    private static int[] aloneCounts(Walk walk, int way, int n, int w) {
        State asked = new State();
        asked.way = way;
        asked.n = n;
        TaskState t = new TaskState();
        int in = 0;
        int traps = 0;
        int moves = 0;
        for (Event event : walk.events) {
            if (event.kind != 'r') {
                if (in == w) {
                    int k = Math.min(asked.spillGuess(t), w - 1);
                    traps++;
                    moves += k;
                    in -= k;
                }
                in++;
            } else {
                in--;
                if (in == 0 && event.frames > 0) {
                    in = Math.min(asked.fillGuess(t), Math.min(event.frames, w));
                    traps++;
                    moves += in;
                }
            }
        }
        return new int[] {traps, moves};
    }

    int least(int task, int w) {
        Walk walk = taskWalk(task);
        if (walk == null || w < 2 || w > 12) {
            return NONE;
        }
        // forward: the least COST with which each count of FRAMES in WINDOWS can be come to
        Map<Integer, Integer> costs = new HashMap<>();
        costs.put(0, 0);
        for (Event event : walk.events) {
            Map<Integer, Integer> next = new HashMap<>();
            for (Map.Entry<Integer, Integer> entry : costs.entrySet()) {
                int in = entry.getKey();
                int cost = entry.getValue();
                if (event.kind != 'r' && in < w) {
                    next.merge(in + 1, cost, Math::min);
                } else if (event.kind != 'r') {
                    for (int k = 1; k < w; k++) {
                        next.merge(in - k + 1, cost + now.trap + k * now.move, Math::min);
                    }
                } else if (in > 1 || event.frames == 0) {
                    next.merge(in - 1, cost, Math::min);
                } else {
                    for (int k = 1; k <= Math.min(w, event.frames); k++) {
                        next.merge(k, cost + now.trap + k * now.move, Math::min);
                    }
                }
            }
            costs = next;
        }
        return costs.get(0);
    }

    int suits(int task) {
        Walk walk = taskWalk(task);
        for (int w = 2; w <= 12 && walk != null; w++) {
            if (aloneCounts(walk, 0, 0, w)[0] == 0) {
                return w;
            }
        }
        return NONE;
    }

    int would(int way, int n, int what) {
        if (!isHandler(way, n) || what < 0 || what > 3) {
            return NONE;
        }
        State copy = now.copy();
        handle(copy, way, n);
        int count = play(copy, 3000);
        return new int[] {copy.cost() - now.cost(), copy.traps.size() - now.traps.size(), copy.moves - now.moves, count}[what];
    }

    int best(int what) {
        int[][] tried = {{0, 0}, {1, 2}, {1, 4}, {2, 0}, {3, 8}};
        int least = 0;
        for (int i = 1; i < 5; i++) {
            if (would(tried[i][0], tried[i][1], 0) < would(tried[least][0], tried[least][1], 0)) {
                least = i;
            }
        }
        return what == 0 ? least : what == 1 ? would(tried[least][0], tried[least][1], 0) : NONE;
    }

    int bestSlice(int what) {
        int best = 0;
        int bestCost = Integer.MAX_VALUE;
        for (int n = 1; n <= 50; n++) {
            State copy = now.copy();
            copy.slice = n;
            play(copy, 3000);
            if (copy.cost() - now.cost() < bestCost) {
                best = n;
                bestCost = copy.cost() - now.cost();
            }
        }
        return what == 0 ? best : what == 1 ? bestCost : NONE;
    }

    int trap(int i, int what) {
        if (i < 0 || i > 19 || i >= now.traps.size() || what < 0 || what > 4) {
            return NONE;
        }
        return now.traps.get(i)[what];
    }

    int law() {
        return 0;
    }

    int image(int box) {
        if (box < 0 || box > 1) {
            return NONE;
        }
        boxes[box] = now.copy();
        return now.events;
    }

    int back(int box) {
        if (box < 0 || box > 1 || boxes[box] == null) {
            return NONE;
        }
        now = boxes[box].copy();
        done.clear();
        undone.clear();
        return now.events;
    }

    int about(int what) {
        int free = 0;
        for (int[] window : now.windows) {
            free += window == null ? 1 : 0;
        }
        int[] all = {store.windows, store.functions.size(), store.taskFunctions.size(), now.events, now.traps.size(),
            now.moves, now.cost(), now.turn, now.turnEvents, now.slice, now.way, now.n, now.used, free, done.size(),
            undone.size(), tape.length(), store.units};
        return what >= 0 && what < all.length ? all[what] : NONE;
    }
}
