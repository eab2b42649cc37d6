import java.util.Arrays;

/** A ring of register windows shared by tasks; what each call must answer is told by the document, by number. */
public final class WindowRing {
    public static final int NONE = -1;

    private static final int NO_TASK = -100;
    private static final int NO_WINDOW = -2;
    private static final int IN_STACK = -2;

    private static final int MOST_BYTES = 1000;
    private static final int LEAST_WINDOWS = 2;
    private static final int MOST_WINDOWS = 12;
    private static final int MOST_FUNCTIONS = 6;
    private static final int MOST_PARAMETERS = 4;
    private static final int MOST_TASKS = 4;
    private static final int MOST_FRAMES = 60;
    private static final int MOST_UNITS = 80;
    private static final int MOST_OTHERS = 5;
    private static final int MOST_NUMBER = 9999;
    private static final int MOST_SLICE = 50;
    private static final int MOST_PRICE = 99;
    private static final int MOST_FIXED = 8;
    private static final int MOST_DOUBLE = 16;
    private static final int MOST_COUNTER = 3;
    private static final int MOST_ACTS = 12;
    private static final int MOST_BOXES = 2;
    private static final int TRAPS_KEPT = 20;
    private static final int TRAP_FACTS = 5;
    private static final int RUN_EVENTS = 500;
    private static final int PLAIN_EVENTS = 2000;
    private static final int WOULD_EVENTS = 3000;
    private static final int ABOVE_ALL = 2147483647;

    // 80 units, an operation between each two, two jumps for an if (each has units of its own), a return for a FUNCTION
    private static final int MOST_CODE = 400;
    // a unit within 5 calls leaves 3 e, a sum and a term open at each: 27 numbers wait at most in a FRAME
    private static final int FRAME_OPERANDS = 28;

    private static final int SINGLE = 0;
    private static final int FIXED = 1;
    private static final int COUNTER = 2;
    private static final int DOUBLE = 3;

    private static final int NOT_BEGUN = 0;
    private static final int UNDER_WAY = 1;
    private static final int DONE = 2;
    private static final int FAILED = 3;

    private static final int OVERFLOW = 0;
    private static final int UNDERFLOW = 1;
    private static final int COMING = 2;

    private static final int FAULT_TOKEN = 1;
    private static final int FAULT_NUMBER = 2;
    private static final int FAULT_AGAIN = 3;
    private static final int FAULT_NAME = 4;
    private static final int FAULT_COUNT = 5;

    // a sign's kind is its byte; all other kinds lie outside the bytes
    private static final int KIND_END = 300;
    private static final int KIND_WRONG = 301;
    private static final int KIND_NUMBER = 302;
    private static final int KIND_NAME = 303;
    private static final int WORD_WINDOWS = 310;
    private static final int WORD_HANDLER = 311;
    private static final int WORD_SLICE = 312;
    private static final int WORD_PRICE = 313;
    private static final int WORD_DEF = 314;
    private static final int WORD_TASK = 315;
    private static final int WORD_SINGLE = 316;
    private static final int WORD_FIXED = 317;
    private static final int WORD_COUNTER = 318;
    private static final int WORD_DOUBLE = 319;
    private static final int WORD_IF = 320;
    private static final int WORD_THEN = 321;
    private static final int WORD_ELSE = 322;

    private static final int CODE_NUMBER = 0;
    private static final int CODE_PARAMETER = 1;
    private static final int CODE_MINUS = 2;
    private static final int CODE_ADD = 3;
    private static final int CODE_SUBTRACT = 4;
    private static final int CODE_MULTIPLY = 5;
    private static final int CODE_DIVIDE = 6;
    private static final int CODE_REST = 7;
    private static final int CODE_UNLESS_BELOW = 8;
    private static final int CODE_UNLESS_ABOVE = 9;
    private static final int CODE_UNLESS_LIKE = 10;
    private static final int CODE_JUMP = 11;
    private static final int CODE_CALL = 12;
    private static final int CODE_RETURN = 13;

    // single, fixed 2, fixed 4, counter, double 8
    private static final int[] TRIED_WAYS = {0, 1, 1, 2, 3};
    private static final int[] TRIED_NUMBERS = {0, 2, 4, 0, 8};
    private static final int[] NOTHING = {};

    private final int[] tape = new int[MOST_BYTES];
    private int tapeBytes = 0;
    private final Reader reader = new Reader();
    private int faultFound = 0;
    private int faultPlace = NONE;

    private Program program = new Program();
    private Program spareProgram = new Program();
    private final History history = new History();
    private final Ring[] boxes = new Ring[MOST_BOXES];
    private final boolean[] boxFilled = new boolean[MOST_BOXES];

    private final Ring trial = new Ring();
    private final Way plainWay = new Way();
    private final Way[] waysAhead = new Way[MOST_TASKS];
    private final int[] fourNumbers = new int[MOST_PARAMETERS];
    private final int[] costsNow = new int[MOST_WINDOWS + 1];
    private final int[] costsLater = new int[MOST_WINDOWS + 1];

    public WindowRing() {
        for (int i = 0; i < boxes.length; i++) {
            boxes[i] = new Ring();
        }
        for (int i = 0; i < waysAhead.length; i++) {
            waysAhead[i] = new Way();
        }
        history.startAnew(program);
    }

    public int feed(int a, int b, int c, int d, int e) {
        if (tapeBytes > MOST_BYTES - 20) {
            return NONE;
        }
        feedFour(a);
        feedFour(b);
        feedFour(c);
        feedFour(d);
        feedFour(e);
        return tapeBytes;
    }

    public int end(int n) {
        if (n < 0 || n > tapeBytes) {
            return NONE;
        }
        tapeBytes = n;
        return n;
    }

    public int store() {
        boolean good = reader.readStore(spareProgram, tape, tapeBytes);
        tapeBytes = 0;
        faultFound = reader.fault;
        faultPlace = reader.place;
        if (!good) {
            return NONE;
        }
        Program old = program;
        program = spareProgram;
        spareProgram = old;
        history.startAnew(program);
        for (int i = 0; i < boxFilled.length; i++) {
            boxFilled[i] = false;
        }
        return program.tasks;
    }

    public int fault(int what) {
        return what == 0 ? faultFound : what == 1 ? faultPlace : NONE;
    }

    public int run(int n) {
        if (n < 1 || n > RUN_EVENTS) {
            return NONE;
        }
        if (history.now().turn == NONE) {
            return 0;
        }
        return history.nextAct().playOn(program, n);
    }

    public boolean handler(int way, int n) {
        if (!handlerCanBe(way, n)) {
            return false;
        }
        history.nextAct().changeHandler(way, n);
        return true;
    }

    public int price(int trap, int move) {
        if (trap < 0 || trap > MOST_PRICE || move < 0 || move > MOST_PRICE) {
            return NONE;
        }
        Ring ring = history.nextAct();
        ring.trapPrice = trap;
        ring.movePrice = move;
        return ring.cost();
    }

    public int slice(int n) {
        if (n < 1 || n > MOST_SLICE) {
            return NONE;
        }
        Ring ring = history.nextAct();
        int old = ring.slice;
        ring.slice = n;
        return old;
    }

    public boolean again(int task) {
        if (!isTask(task) || !history.now().isOver(task)) {
            return false;
        }
        history.nextAct().restart(task);
        return true;
    }

    public boolean undo() {
        return history.stepBack();
    }

    public boolean redo() {
        return history.stepOn();
    }

    public int task(int task, int what) {
        if (!isTask(task)) {
            return NO_TASK;
        }
        return what == 0 ? at(program.taskFunctions, task) : history.now().taskAt(task).fact(what);
    }

    public int result(int task) {
        if (!isTask(task)) {
            return 0;
        }
        Task one = history.now().taskAt(task);
        return one.condition == DONE ? one.course.outcome : 0;
    }

    public int window(int window, int what) {
        Ring ring = history.now();
        if (window < 0 || window >= ring.windows) {
            return NO_WINDOW;
        }
        return what == 0 ? at(ring.owners, window) : what == 1 ? at(ring.frames, window) : NO_WINDOW;
    }

    public int register(int window, int i) {
        Ring ring = history.now();
        if (window < 0 || window >= ring.windows || at(ring.owners, window) == NONE) {
            return 0;
        }
        return ring.taskAt(at(ring.owners, window)).course.parameter(at(ring.frames, window), i);
    }

    public int value(int task, int frame, int i) {
        return isTask(task) ? history.now().taskAt(task).course.parameter(frame, i) : 0;
    }

    public int where(int task, int frame) {
        Ring ring = history.now();
        if (!isTask(task) || frame < 1 || frame > ring.taskAt(task).course.depth) {
            return NONE;
        }
        int window = ring.windowOf(task, frame);
        return window == NONE ? IN_STACK : window;
    }

    public int plain(int function, int a, int b, int c, int d) {
        return followPlainly(function, a, b, c, d) ? plainWay.course.outcome : 0;
    }

    public int profile(int function, int a, int b, int c, int d, int what) {
        if (what < 0 || what > 2 || !followPlainly(function, a, b, c, d)) {
            return NONE;
        }
        return what == 0 ? plainWay.events : what == 1 ? plainWay.most : plainWay.selfCalls;
    }

    public int depths(int task, int frames) {
        if (frames < 1 || frames > MOST_FRAMES || !followTask(task)) {
            return NONE;
        }
        return plainWay.timesAt(frames);
    }

    public int alone(int task, int way, int n, int what) {
        if (!isTask(task) || !handlerCanBe(way, n) || what < 0 || what > 2) {
            return NONE;
        }
        trial.startAnew(program);
        trial.leaveAlone(task);
        trial.changeHandler(way, n);
        trial.playOn(program, PLAIN_EVENTS);
        if (trial.taskAt(task).condition != DONE) {
            return NONE;
        }
        Ring now = history.now();
        trial.trapPrice = now.trapPrice;
        trial.movePrice = now.movePrice;
        return what == 0 ? trial.cost() : what == 1 ? trial.traps : trial.moves;
    }

    public int least(int task, int w) {
        if (w < LEAST_WINDOWS || w > MOST_WINDOWS || !followTask(task)) {
            return NONE;
        }
        Arrays.fill(costsLater, 0);
        for (int i = plainWay.events - 1; i > 0; i--) {
            int frames = at(plainWay.depths, i);
            boolean call = frames > at(plainWay.depths, i - 1);
            for (int resident = 1; resident <= w; resident++) {
                put(costsNow, resident, call ? leastOfCall(resident, w) : leastOfReturn(resident, frames, w));
            }
            System.arraycopy(costsNow, 0, costsLater, 0, costsLater.length);
        }
        return at(costsLater, 1);
    }

    public int suits(int task) {
        if (!followTask(task) || plainWay.most > MOST_WINDOWS) {
            return NONE;
        }
        return Math.max(LEAST_WINDOWS, plainWay.most);
    }

    public int would(int way, int n, int what) {
        if (!handlerCanBe(way, n) || what < 0 || what > 3) {
            return NONE;
        }
        Ring now = history.now();
        trial.copyFrom(now);
        trial.changeHandler(way, n);
        trial.playOn(program, WOULD_EVENTS);
        switch (what) {
            case 0: return trial.cost() - now.cost();
            case 1: return trial.traps - now.traps;
            case 2: return trial.moves - now.moves;
            default: return trial.events - now.events;
        }
    }

    public int best(int what) {
        if (what < 0 || what > 1) {
            return NONE;
        }
        Ring now = history.now();
        lookAhead();
        int bestTried = 0;
        int bestCost = ABOVE_ALL;
        for (int i = 0; i < TRIED_WAYS.length; i++) {
            trial.copyFrom(now);
            trial.foresee(waysAhead);
            trial.changeHandler(TRIED_WAYS[i], at(TRIED_NUMBERS, i));
            trial.playBelow(program, bestCost);
            if (trial.cost() < bestCost) {
                bestTried = i;
                bestCost = trial.cost();
            }
        }
        return what == 0 ? bestTried : bestCost - now.cost();
    }

    public int bestSlice(int what) {
        if (what < 0 || what > 1) {
            return NONE;
        }
        Ring now = history.now();
        // without another TASK to take turns with, all SLICES are alike
        int most = now.tasksLeft() > 1 ? MOST_SLICE : 1;
        lookAhead();
        int bestTried = 1;
        int bestCost = ABOVE_ALL;
        for (int n = 1; n <= most; n++) {
            trial.copyFrom(now);
            trial.foresee(waysAhead);
            trial.slice = n;
            trial.playBelow(program, bestCost);
            if (trial.cost() < bestCost) {
                bestTried = n;
                bestCost = trial.cost();
            }
        }
        return what == 0 ? bestTried : bestCost - now.cost();
    }

    public int trap(int i, int what) {
        Ring ring = history.now();
        if (i < 0 || i >= TRAPS_KEPT || i >= ring.traps || what < 0 || what >= TRAP_FACTS) {
            return NONE;
        }
        return at(ring.trapFacts, (ring.traps - 1 - i) % TRAPS_KEPT * TRAP_FACTS + what);
    }

    public int law() {
        Ring ring = history.now();
        int wrong = ring.windowsAstray();
        for (int i = 0; i < program.tasks; i++) {
            Task task = ring.taskAt(i);
            if (task.condition == DONE && followTask(i) && plainWay.course.outcome != task.course.outcome) {
                wrong++;
            }
        }
        return wrong;
    }

    public int image(int box) {
        if (box < 0 || box >= boxes.length || box >= boxFilled.length) {
            return NONE;
        }
        boxes[box].copyFrom(history.now());
        boxFilled[box] = true;
        return history.now().events;
    }

    public int back(int box) {
        if (box < 0 || box >= boxes.length || box >= boxFilled.length || !boxFilled[box]) {
            return NONE;
        }
        history.startFrom(boxes[box]);
        return history.now().events;
    }

    public int about(int what) {
        switch (what) {
            case 0: return program.windows;
            case 1: return program.functions;
            case 2: return program.tasks;
            case 14: return history.position;
            case 15: return history.last - history.position;
            case 16: return tapeBytes;
            case 17: return program.units;
            default: return history.now().fact(what);
        }
    }

    private static int at(int[] row, int i) {
        return i >= 0 && i < row.length ? row[i] : 0;
    }

    private static void put(int[] row, int i, int number) {
        if (i >= 0 && i < row.length) {
            row[i] = number;
        }
    }

    private static boolean handlerCanBe(int way, int n) {
        switch (way) {
            case SINGLE: return true;
            case FIXED: return n >= 1 && n <= MOST_FIXED;
            case COUNTER: return true;
            case DOUBLE: return n >= 1 && n <= MOST_DOUBLE;
            default: return false;
        }
    }

    private void feedFour(int bytes) {
        for (int shift = 24; shift >= 0; shift -= 8) {
            put(tape, tapeBytes, bytes >>> shift & 255);
            tapeBytes++;
        }
    }

    private boolean isTask(int task) {
        return task >= 0 && task < program.tasks;
    }

    private boolean followPlainly(int function, int a, int b, int c, int d) {
        if (function < 0 || function >= program.functions) {
            return false;
        }
        put(fourNumbers, 0, a);
        put(fourNumbers, 1, b);
        put(fourNumbers, 2, c);
        put(fourNumbers, 3, d);
        return plainWay.followWhole(program, function, fourNumbers, 0);
    }

    private boolean followTask(int task) {
        return isTask(task)
            && plainWay.followWhole(program, at(program.taskFunctions, task), program.taskNumbers, task * MOST_PARAMETERS);
    }

    /** How each TASK goes is the same by all HANDLERS and SLICES: it is found out once for all that are tried. */
    private void lookAhead() {
        for (int i = 0; i < program.tasks && i < waysAhead.length; i++) {
            Task task = history.now().taskAt(i);
            if (task.condition == NOT_BEGUN) {
                waysAhead[i].followTask(program, i);
            } else {
                waysAhead[i].followOn(program, task.course);
            }
        }
    }

    private int leastOfCall(int resident, int w) {
        if (resident < w) {
            return at(costsLater, resident + 1);
        }
        int least = ABOVE_ALL;
        for (int k = 1; k < w; k++) {
            least = Math.min(least, trapCost(k) + at(costsLater, w - k + 1));
        }
        return least;
    }

    private int leastOfReturn(int resident, int framesLeft, int w) {
        if (framesLeft == 0) {
            return 0;
        }
        if (resident > 1) {
            return at(costsLater, resident - 1);
        }
        int least = ABOVE_ALL;
        for (int k = 1; k <= w && k <= framesLeft; k++) {
            least = Math.min(least, trapCost(k) + at(costsLater, k));
        }
        return least;
    }

    private int trapCost(int moves) {
        Ring now = history.now();
        return now.trapPrice + moves * now.movePrice;
    }

    /** What a STORE tells, its formulas as code for a stack of numbers, so that a TASK can rest at each EVENT. */
    private static final class Program {
        int windows;
        int way;
        int n;
        int slice;
        int trapPrice;
        int movePrice;
        int functions;
        int tasks;
        int units;
        int length;
        final int[] entries = new int[MOST_FUNCTIONS];
        final int[] parameters = new int[MOST_FUNCTIONS];
        final int[] taskFunctions = new int[MOST_TASKS];
        final int[] taskNumbers = new int[MOST_TASKS * MOST_PARAMETERS];
        final int[] codes = new int[MOST_CODE];
        final int[] operands = new int[MOST_CODE];

        Program() {
            clear();
        }

        void clear() {
            windows = 6;
            way = SINGLE;
            n = 0;
            slice = 8;
            trapPrice = 10;
            movePrice = 1;
            functions = 0;
            tasks = 0;
            units = 0;
            length = 0;
            Arrays.fill(taskNumbers, 0);
        }

        int emit(int code, int operand) {
            int place = length;
            if (place < MOST_CODE) {
                put(codes, place, code);
                put(operands, place, operand);
                length++;
            }
            return place;
        }
    }

    /** The TOKENS of a text, one at a time. */
    private static final class Tokens {
        private int[] text = new int[0];
        private int bytes;
        int kind;
        int start;
        int past;
        int number;

        void open(int[] newText, int count) {
            text = newText;
            bytes = Math.min(count, text.length);
            past = 0;
            next();
        }

        void next() {
            start = past;
            while (start < bytes && isBlank(at(text, start))) {
                start++;
            }
            past = start;
            int sign = at(text, start);
            if (start >= bytes) {
                kind = KIND_END;
            } else if (isLetter(sign)) {
                skipWord();
                kind = wordKind();
            } else if (isDigit(sign)) {
                readNumber();
                kind = KIND_NUMBER;
            } else {
                past = start + 1;
                kind = isSign(sign) ? sign : KIND_WRONG;
            }
        }

        boolean sameWords(int start1, int past1, int start2, int past2) {
            if (past1 - start1 != past2 - start2) {
                return false;
            }
            for (int i = 0; i < past1 - start1; i++) {
                if (at(text, start1 + i) != at(text, start2 + i)) {
                    return false;
                }
            }
            return true;
        }

        private void skipWord() {
            while (past < bytes && isLetter(at(text, past))) {
                past++;
            }
        }

        private void readNumber() {
            number = 0;
            while (past < bytes && isDigit(at(text, past))) {
                // a number too great for all lines stays so, however long it is
                number = Math.min(number * 10 + at(text, past) - '0', MOST_NUMBER + 1);
                past++;
            }
        }

        private int wordKind() {
            if (isWord("windows")) return WORD_WINDOWS;
            if (isWord("handler")) return WORD_HANDLER;
            if (isWord("slice")) return WORD_SLICE;
            if (isWord("price")) return WORD_PRICE;
            if (isWord("def")) return WORD_DEF;
            if (isWord("task")) return WORD_TASK;
            if (isWord("single")) return WORD_SINGLE;
            if (isWord("fixed")) return WORD_FIXED;
            if (isWord("counter")) return WORD_COUNTER;
            if (isWord("double")) return WORD_DOUBLE;
            if (isWord("if")) return WORD_IF;
            if (isWord("then")) return WORD_THEN;
            if (isWord("else")) return WORD_ELSE;
            return KIND_NAME;
        }

        private boolean isWord(String word) {
            if (word.length() != past - start) {
                return false;
            }
            for (int i = 0; i < word.length() && start + i < text.length; i++) {
                if (word.charAt(i) != text[start + i]) {
                    return false;
                }
            }
            return true;
        }

        private static boolean isBlank(int sign) {
            return sign == 32 || sign == 10;
        }

        private static boolean isLetter(int sign) {
            return sign >= 'a' && sign <= 'z';
        }

        private static boolean isDigit(int sign) {
            return sign >= '0' && sign <= '9';
        }

        private static boolean isSign(int sign) {
            return sign < 128 && ";=(),+-*/%<>".indexOf((char) sign) >= 0;
        }
    }

    /** Reads a text into a Program; each part answers whether it was without FAULT, and the first FAULT ends it all. */
    private static final class Reader {
        private final Tokens tokens = new Tokens();
        private Program program = new Program();
        int fault;
        int place;
        private int toldLines;
        private int number;
        private int surplus;
        private int parameters;
        private final int[] functionStarts = new int[MOST_FUNCTIONS];
        private final int[] functionPasts = new int[MOST_FUNCTIONS];
        private final int[] parameterStarts = new int[MOST_PARAMETERS];
        private final int[] parameterPasts = new int[MOST_PARAMETERS];

        boolean readStore(Program into, int[] text, int bytes) {
            program = into;
            program.clear();
            fault = 0;
            place = NONE;
            toldLines = 0;
            surplus = NONE;
            tokens.open(text, bytes);
            boolean good = true;
            for (int i = 0; i <= MOST_BYTES && good && tokens.kind != KIND_END; i++) {
                switch (tokens.kind) {
                    case WORD_WINDOWS: good = readWindows(); break;
                    case WORD_HANDLER: good = readHandler(); break;
                    case WORD_SLICE: good = readSlice(); break;
                    case WORD_PRICE: good = readPrice(); break;
                    case WORD_DEF: good = readFunction(); break;
                    case WORD_TASK: good = readTask(); break;
                    default: good = refuseToken(); break;
                }
            }
            return good;
        }

        private boolean refuse(int code, int where) {
            fault = code;
            place = where;
            return false;
        }

        private boolean refuseToken() {
            return refuse(FAULT_TOKEN, tokens.start);
        }

        private boolean readWindows() {
            if (!readFirstTold(1) || !readNumber(LEAST_WINDOWS, MOST_WINDOWS)) {
                return false;
            }
            program.windows = number;
            return readSign(';');
        }

        private boolean readHandler() {
            if (!readFirstTold(2)) {
                return false;
            }
            int word = tokens.kind;
            if (word != WORD_SINGLE && word != WORD_FIXED && word != WORD_COUNTER && word != WORD_DOUBLE) {
                return refuseToken();
            }
            tokens.next();
            number = 0;
            if (word == WORD_FIXED && !readNumber(1, MOST_FIXED)) {
                return false;
            }
            if (word == WORD_DOUBLE && !readNumber(1, MOST_DOUBLE)) {
                return false;
            }
            program.way = SINGLE + word - WORD_SINGLE;
            program.n = number;
            return readSign(';');
        }

        private boolean readSlice() {
            if (!readFirstTold(4) || !readNumber(1, MOST_SLICE)) {
                return false;
            }
            program.slice = number;
            return readSign(';');
        }

        private boolean readPrice() {
            if (!readFirstTold(8) || !readNumber(0, MOST_PRICE)) {
                return false;
            }
            program.trapPrice = number;
            if (!readNumber(0, MOST_PRICE)) {
                return false;
            }
            program.movePrice = number;
            return readSign(';');
        }

        private boolean readFirstTold(int line) {
            if ((toldLines & line) != 0) {
                return refuse(FAULT_AGAIN, tokens.start);
            }
            toldLines |= line;
            tokens.next();
            return true;
        }

        private boolean readNumber(int lowest, int highest) {
            if (tokens.kind != KIND_NUMBER) {
                return refuseToken();
            }
            if (tokens.number < lowest || tokens.number > highest) {
                return refuse(FAULT_NUMBER, tokens.start);
            }
            number = tokens.number;
            tokens.next();
            return true;
        }

        private boolean readSign(int sign) {
            if (tokens.kind != sign) {
                return refuseToken();
            }
            tokens.next();
            return true;
        }

        private boolean readFunction() {
            if (program.functions >= MOST_FUNCTIONS) {
                return refuse(FAULT_COUNT, tokens.start);
            }
            tokens.next();
            if (!readNewName() || !readParameters() || !readSign('=') || !readFormula(0)) {
                return false;
            }
            program.emit(CODE_RETURN, 0);
            return readSign(';');
        }

        private boolean readNewName() {
            if (tokens.kind != KIND_NAME) {
                return refuseToken();
            }
            if (functionNamed(tokens.start, tokens.past) != NONE) {
                return refuse(FAULT_AGAIN, tokens.start);
            }
            put(functionStarts, program.functions, tokens.start);
            put(functionPasts, program.functions, tokens.past);
            put(program.entries, program.functions, program.length);
            program.functions++;
            tokens.next();
            return true;
        }

        private boolean readParameters() {
            parameters = 0;
            for (int i = 0; i <= MOST_PARAMETERS && tokens.kind == KIND_NAME; i++) {
                if (functionNamed(tokens.start, tokens.past) != NONE
                    || parameterNamed(tokens.start, tokens.past) != NONE) {
                    return refuse(FAULT_AGAIN, tokens.start);
                }
                if (parameters >= MOST_PARAMETERS) {
                    return refuse(FAULT_COUNT, tokens.start);
                }
                put(parameterStarts, parameters, tokens.start);
                put(parameterPasts, parameters, tokens.past);
                parameters++;
                tokens.next();
            }
            put(program.parameters, program.functions - 1, parameters);
            return true;
        }

        private int functionNamed(int start, int past) {
            for (int i = 0; i < program.functions; i++) {
                if (tokens.sameWords(at(functionStarts, i), at(functionPasts, i), start, past)) {
                    return i;
                }
            }
            return NONE;
        }

        private int parameterNamed(int start, int past) {
            for (int i = 0; i < parameters; i++) {
                if (tokens.sameWords(at(parameterStarts, i), at(parameterPasts, i), start, past)) {
                    return i;
                }
            }
            return NONE;
        }

        private boolean readTask() {
            if (program.tasks >= MOST_TASKS) {
                return refuse(FAULT_COUNT, tokens.start);
            }
            tokens.next();
            if (tokens.kind != KIND_NAME) {
                return refuseToken();
            }
            int function = functionNamed(tokens.start, tokens.past);
            if (function == NONE) {
                return refuse(FAULT_NAME, tokens.start);
            }
            tokens.next();
            put(program.taskFunctions, program.tasks, function);
            for (int i = 0; i < at(program.parameters, function); i++) {
                if (!readTaskNumber(program.tasks * MOST_PARAMETERS + i)) {
                    return false;
                }
            }
            program.tasks++;
            return readTaskEnd();
        }

        private boolean readTaskNumber(int index) {
            if (tokens.kind == ';') {
                return refuse(FAULT_COUNT, tokens.start);
            }
            boolean minus = tokens.kind == '-';
            if (minus) {
                tokens.next();
            }
            if (!readNumber(0, MOST_NUMBER)) {
                return false;
            }
            put(program.taskNumbers, index, minus ? -number : number);
            return true;
        }

        private boolean readTaskEnd() {
            if (tokens.kind == '-') {
                return refuse(FAULT_COUNT, tokens.start);
            }
            if (tokens.kind == KIND_NUMBER) {
                return refuse(tokens.number > MOST_NUMBER ? FAULT_NUMBER : FAULT_COUNT, tokens.start);
            }
            return readSign(';');
        }

        private boolean readFormula(int others) {
            if (tokens.kind != WORD_IF) {
                return readSum(others);
            }
            if (others > MOST_OTHERS || tokens.start == surplus) {
                return refuse(FAULT_COUNT, tokens.start);
            }
            tokens.next();
            if (!readSum(others + 1)) {
                return false;
            }
            int compared = tokens.kind;
            if (compared != '<' && compared != '>' && compared != '=') {
                return refuseToken();
            }
            tokens.next();
            if (!readSum(others + 1)) {
                return false;
            }
            int code = compared == '<' ? CODE_UNLESS_BELOW : compared == '>' ? CODE_UNLESS_ABOVE : CODE_UNLESS_LIKE;
            int toElse = program.emit(code, 0);
            if (!readSign(WORD_THEN) || !readFormula(others + 1)) {
                return false;
            }
            int toEnd = program.emit(CODE_JUMP, 0);
            put(program.operands, toElse, program.length);
            if (!readSign(WORD_ELSE) || !readFormula(others + 1)) {
                return false;
            }
            put(program.operands, toEnd, program.length);
            return true;
        }

        private boolean readSum(int others) {
            if (!readTerm(others)) {
                return false;
            }
            for (int i = 0; i < MOST_BYTES && (tokens.kind == '+' || tokens.kind == '-'); i++) {
                int code = tokens.kind == '+' ? CODE_ADD : CODE_SUBTRACT;
                tokens.next();
                if (!readTerm(others)) {
                    return false;
                }
                program.emit(code, 0);
            }
            return true;
        }

        private boolean readTerm(int others) {
            if (!readUnit(others)) {
                return false;
            }
            for (int i = 0; i < MOST_BYTES && (tokens.kind == '*' || tokens.kind == '/' || tokens.kind == '%'); i++) {
                int code = tokens.kind == '*' ? CODE_MULTIPLY : tokens.kind == '/' ? CODE_DIVIDE : CODE_REST;
                tokens.next();
                if (!readUnit(others)) {
                    return false;
                }
                program.emit(code, 0);
            }
            return true;
        }

        private boolean readUnit(int others) {
            // of one place the least FAULT counts: that the unit is one too many is told behind all else of its TOKEN
            boolean tooMany = program.units >= MOST_UNITS || others > MOST_OTHERS || tokens.start == surplus;
            int kind = tokens.kind;
            int start = tokens.start;
            if (kind == KIND_NAME) {
                return readNamed(others, tooMany);
            }
            if (kind != KIND_NUMBER && kind != '(' && kind != '-') {
                return refuseToken();
            }
            if (kind == KIND_NUMBER && !readNumber(0, MOST_NUMBER)) {
                return false;
            }
            if (tooMany) {
                return refuse(FAULT_COUNT, start);
            }
            program.units++;
            if (kind == KIND_NUMBER) {
                program.emit(CODE_NUMBER, number);
                return true;
            }
            tokens.next();
            if (kind == '(') {
                return readFormula(others + 1) && readSign(')');
            }
            if (!readUnit(others + 1)) {
                return false;
            }
            program.emit(CODE_MINUS, 0);
            return true;
        }

        private boolean readNamed(int others, boolean tooMany) {
            int start = tokens.start;
            int past = tokens.past;
            tokens.next();
            boolean call = tokens.kind == '(';
            int named = call ? functionNamed(start, past) : parameterNamed(start, past);
            if (named == NONE) {
                return refuse(FAULT_NAME, start);
            }
            if (tooMany) {
                return refuse(FAULT_COUNT, start);
            }
            program.units++;
            if (call) {
                tokens.next();
                if (!readArguments(at(program.parameters, named), others + 1)) {
                    return false;
                }
            }
            program.emit(call ? CODE_CALL : CODE_PARAMETER, named);
            return true;
        }

        private boolean readArguments(int wanted, int others) {
            if (wanted == 0 && tokens.kind != ')') {
                surplus = tokens.start;
                return readFormula(others);
            }
            for (int i = 0; i < wanted; i++) {
                if (tokens.kind == ')') {
                    return refuse(FAULT_COUNT, tokens.start);
                }
                if (!readFormula(others)) {
                    return false;
                }
                if (tokens.kind == (i + 1 < wanted ? ')' : ',')) {
                    return refuse(FAULT_COUNT, tokens.start);
                }
                if (i + 1 < wanted && !readSign(',')) {
                    return false;
                }
            }
            return readSign(')');
        }
    }

    /** One plain recursion under way: its FRAMES, and the numbers that wait in them. */
    private static final class Course {
        int depth;
        int place;
        int waiting;
        int outcome;
        private int[] foreseen = NOTHING;
        private int seen;
        private final int[] values = new int[MOST_FRAMES * MOST_PARAMETERS];
        private final int[] returns = new int[MOST_FRAMES];
        private final int[] numbers = new int[MOST_FRAMES * FRAME_OPERANDS];

        void clear() {
            depth = 0;
            place = 0;
            waiting = 0;
            outcome = 0;
            foreseen = NOTHING;
        }

        /** From now on its FRAMES are but counted, as they were found out, and its numbers not worked out again. */
        void foresee(int[] depths) {
            foreseen = depths;
            seen = 0;
        }

        void copyFrom(Course other) {
            depth = other.depth;
            place = other.place;
            waiting = other.waiting;
            outcome = other.outcome;
            foreseen = NOTHING;
            System.arraycopy(other.values, 0, values, 0, Math.min(depth * MOST_PARAMETERS, values.length));
            System.arraycopy(other.returns, 0, returns, 0, Math.min(depth, returns.length));
            System.arraycopy(other.numbers, 0, numbers, 0, Math.min(waiting, numbers.length));
        }

        int parameter(int frame, int i) {
            if (frame < 1 || frame > depth || i < 0 || i >= MOST_PARAMETERS) {
                return 0;
            }
            return at(values, (frame - 1) * MOST_PARAMETERS + i);
        }

        void begin(Program program, int function, int[] given, int from) {
            depth = 1;
            place = at(program.entries, function);
            waiting = 0;
            outcome = 0;
            for (int i = 0; i < MOST_PARAMETERS; i++) {
                put(values, i, i < at(program.parameters, function) ? at(given, from + i) : 0);
            }
        }

        /** Goes to the next CALL or RETURN, and answers which it is; it is not done yet. */
        int reach(Program program) {
            if (foreseen.length > 0) {
                return at(foreseen, seen) > depth ? CODE_CALL : CODE_RETURN;
            }
            // jumps lead forward alone, so the code's length bounds the way
            for (int i = 0; i < MOST_CODE; i++) {
                int code = at(program.codes, place);
                if (code == CODE_CALL || code == CODE_RETURN) {
                    return code;
                }
                int operand = at(program.operands, place);
                place++;
                compute(code, operand);
            }
            return CODE_RETURN;
        }

        int called(Program program) {
            return at(program.operands, place);
        }

        void enter(Program program) {
            if (foreseen.length > 0) {
                depth++;
                seen++;
                return;
            }
            int function = called(program);
            int base = depth * MOST_PARAMETERS;
            int count = at(program.parameters, function);
            put(returns, depth, place + 1);
            for (int i = MOST_PARAMETERS - 1; i >= 0; i--) {
                put(values, base + i, i < count ? pop() : 0);
            }
            depth++;
            place = at(program.entries, function);
        }

        void leave() {
            depth--;
            if (foreseen.length > 0) {
                seen++;
            } else if (depth == 0) {
                outcome = pop();
            } else {
                place = at(returns, depth);
            }
        }

        private void compute(int code, int operand) {
            switch (code) {
                case CODE_NUMBER: push(operand); break;
                case CODE_PARAMETER: push(parameter(depth, operand)); break;
                case CODE_MINUS: push(-pop()); break;
                case CODE_JUMP: place = operand; break;
                default: computeOfTwo(code, operand);
            }
        }

        private void computeOfTwo(int code, int operand) {
            int right = pop();
            int left = pop();
            switch (code) {
                case CODE_ADD: push(left + right); break;
                case CODE_SUBTRACT: push(left - right); break;
                case CODE_MULTIPLY: push(left * right); break;
                case CODE_DIVIDE: push(right == 0 ? 0 : left / right); break;
                case CODE_REST: push(right == 0 ? 0 : left % right); break;
                case CODE_UNLESS_BELOW: place = left < right ? place : operand; break;
                case CODE_UNLESS_ABOVE: place = left > right ? place : operand; break;
                default: place = left == right ? place : operand;
            }
        }

        private void push(int number) {
            if (waiting >= 0 && waiting < numbers.length) {
                numbers[waiting] = number;
                waiting++;
            }
        }

        private int pop() {
            if (waiting <= 0 || waiting > numbers.length) {
                return 0;
            }
            waiting--;
            return numbers[waiting];
        }
    }

    /** The way of a plain recursion: how many FRAMES there are behind each EVENT, and what else is told of it. */
    private static final class Way {
        final Course course = new Course();
        final int[] depths = new int[WOULD_EVENTS];
        int events;
        int most;
        int selfCalls;

        /** Goes the whole way of a CALL; whether it takes no more FRAMES and EVENTS than it may. */
        boolean followWhole(Program program, int function, int[] given, int from) {
            course.begin(program, function, given, from);
            put(depths, 0, 1);
            events = 1;
            most = 1;
            selfCalls = 0;
            follow(program, function, PLAIN_EVENTS);
            return course.depth == 0;
        }

        /** Goes the way of a TASK behind its begin. */
        void followTask(Program program, int task) {
            int function = at(program.taskFunctions, task);
            course.begin(program, function, program.taskNumbers, task * MOST_PARAMETERS);
            events = 0;
            follow(program, function, WOULD_EVENTS);
        }

        /** Goes on from where another one is. */
        void followOn(Program program, Course from) {
            course.copyFrom(from);
            events = 0;
            follow(program, NONE, WOULD_EVENTS);
        }

        /** Goes till it is over; a CALL of one FRAME too many is told by its number, and ends it. */
        private void follow(Program program, int function, int mostEvents) {
            while (events < mostEvents && course.depth > 0 && course.depth <= MOST_FRAMES) {
                if (course.reach(program) == CODE_RETURN) {
                    course.leave();
                } else if (course.depth < MOST_FRAMES) {
                    selfCalls += course.called(program) == function ? 1 : 0;
                    course.enter(program);
                } else {
                    course.depth++;
                }
                put(depths, events, course.depth);
                most = Math.max(most, course.depth);
                events++;
            }
        }

        int timesAt(int frames) {
            int times = 0;
            int before = 0;
            for (int i = 0; i < events; i++) {
                int depth = at(depths, i);
                times += depth == frames && depth > before ? 1 : 0;
                before = depth;
            }
            return times;
        }
    }

    /** A TASK: how its recursion goes, and how it fares in the ring. */
    private static final class Task {
        final Course course = new Course();
        int condition;
        int resident;
        int latestWindow;
        int events;
        int most;
        int counter;
        int guess;
        int overflows;
        int underflows;
        int spilled;
        int filled;

        void clear() {
            course.clear();
            condition = NOT_BEGUN;
            resident = 0;
            latestWindow = NONE;
            events = 0;
            most = 0;
            overflows = 0;
            underflows = 0;
            spilled = 0;
            filled = 0;
            forgetGuesses();
        }

        void forgetGuesses() {
            counter = 1;
            guess = 0;
        }

        void copyFrom(Task other) {
            course.copyFrom(other.course);
            condition = other.condition;
            resident = other.resident;
            latestWindow = other.latestWindow;
            events = other.events;
            most = other.most;
            counter = other.counter;
            guess = other.guess;
            overflows = other.overflows;
            underflows = other.underflows;
            spilled = other.spilled;
            filled = other.filled;
        }

        int fact(int what) {
            switch (what) {
                case 1: return condition;
                case 2: return course.depth;
                case 3: return resident;
                case 4: return events;
                case 5: return most;
                case 6: return counter;
                case 7: return guess;
                case 8: return overflows;
                case 9: return underflows;
                case 10: return spilled;
                case 11: return filled;
                default: return NO_TASK;
            }
        }

        int guessToSpill(int way, int n) {
            switch (way) {
                case FIXED:
                    return n;
                case COUNTER:
                    int k = counter + 1;
                    counter = Math.min(counter + 1, MOST_COUNTER);
                    return k;
                case DOUBLE:
                    guess = guess > 0 ? Math.min(guess * 2, n) : 1;
                    return guess;
                default:
                    return 1;
            }
        }

        int guessToFill(int way, int n) {
            switch (way) {
                case FIXED:
                    return n;
                case COUNTER:
                    int k = 4 - counter;
                    counter = Math.max(counter - 1, 0);
                    return k;
                case DOUBLE:
                    guess = guess < 0 ? Math.max(guess * 2, -n) : -1;
                    return -guess;
                default:
                    return 1;
            }
        }
    }

    /** All that ACTS change: the WINDOWS, the TASKS in them, the HANDLER, PRICES, SLICE and turn. */
    private static final class Ring {
        int windows;
        int taskCount;
        int way;
        int n;
        int trapPrice;
        int movePrice;
        int slice;
        int turn;
        int turnEvents;
        int events;
        int traps;
        int moves;
        int usedWindow;
        final int[] owners = new int[MOST_WINDOWS];
        final int[] frames = new int[MOST_WINDOWS];
        final int[] trapFacts = new int[TRAPS_KEPT * TRAP_FACTS];
        private final Task[] tasks = new Task[MOST_TASKS];

        Ring() {
            for (int i = 0; i < tasks.length; i++) {
                tasks[i] = new Task();
            }
        }

        void startAnew(Program program) {
            windows = program.windows;
            taskCount = program.tasks;
            way = program.way;
            n = program.n;
            trapPrice = program.trapPrice;
            movePrice = program.movePrice;
            slice = program.slice;
            turn = taskCount > 0 ? 0 : NONE;
            turnEvents = 0;
            events = 0;
            traps = 0;
            moves = 0;
            usedWindow = NONE;
            Arrays.fill(owners, NONE);
            Arrays.fill(frames, NONE);
            for (int i = 0; i < tasks.length; i++) {
                tasks[i].clear();
            }
        }

        void copyFrom(Ring other) {
            windows = other.windows;
            taskCount = other.taskCount;
            way = other.way;
            n = other.n;
            trapPrice = other.trapPrice;
            movePrice = other.movePrice;
            slice = other.slice;
            turn = other.turn;
            turnEvents = other.turnEvents;
            events = other.events;
            traps = other.traps;
            moves = other.moves;
            usedWindow = other.usedWindow;
            System.arraycopy(other.owners, 0, owners, 0, owners.length);
            System.arraycopy(other.frames, 0, frames, 0, frames.length);
            System.arraycopy(other.trapFacts, 0, trapFacts, 0, trapFacts.length);
            for (int i = 0; i < tasks.length; i++) {
                tasks[i].copyFrom(other.taskAt(i));
            }
        }

        Task taskAt(int task) {
            return task >= 0 && task < tasks.length ? tasks[task] : tasks[0];
        }

        boolean isOver(int task) {
            int condition = taskAt(task).condition;
            return condition == DONE || condition == FAILED;
        }

        int cost() {
            return traps * trapPrice + moves * movePrice;
        }

        int fact(int what) {
            switch (what) {
                case 3: return events;
                case 4: return traps;
                case 5: return moves;
                case 6: return cost();
                case 7: return turn;
                case 8: return turnEvents;
                case 9: return slice;
                case 10: return way;
                case 11: return n;
                case 12: return usedWindow;
                case 13: return freeWindows();
                default: return NONE;
            }
        }

        void changeHandler(int newWay, int newN) {
            way = newWay;
            n = newWay == FIXED || newWay == DOUBLE ? newN : 0;
            for (int i = 0; i < tasks.length; i++) {
                tasks[i].forgetGuesses();
            }
        }

        void restart(int task) {
            taskAt(task).clear();
            if (turn == NONE) {
                turn = task;
                turnEvents = 0;
            }
        }

        void foresee(Way[] ways) {
            for (int i = 0; i < tasks.length && i < ways.length; i++) {
                tasks[i].course.foresee(ways[i].depths);
            }
        }

        void leaveAlone(int task) {
            for (int i = 0; i < tasks.length; i++) {
                tasks[i].condition = i == task ? NOT_BEGUN : FAILED;
            }
            turn = task;
        }

        /** Where a FRAME is: RESIDENT ones lie one behind another, the latest one last. */
        int windowOf(int task, int frame) {
            Task one = taskAt(task);
            int further = one.course.depth - frame;
            if (further < 0 || further >= one.resident) {
                return NONE;
            }
            int window = one.latestWindow - further;
            return window >= 0 ? window : window + windows;
        }

        int windowsAstray() {
            int astray = 0;
            for (int i = 0; i < windows; i++) {
                if (at(owners, i) != NONE && windowOf(at(owners, i), at(frames, i)) != i) {
                    astray++;
                }
            }
            return astray;
        }

        int playOn(Program program, int most) {
            int taken = 0;
            while (taken < most && turn != NONE) {
                takeEvent(program);
                taken++;
            }
            return taken;
        }

        /** Plays on till all is over, but no further than the COST is as high as one that is known. */
        void playBelow(Program program, int known) {
            for (int taken = 0; taken < WOULD_EVENTS && turn != NONE && cost() < known; taken++) {
                takeEvent(program);
            }
        }

        int tasksLeft() {
            int left = 0;
            for (int i = 0; i < taskCount; i++) {
                left += isOver(i) ? 0 : 1;
            }
            return left;
        }

        private int freeWindows() {
            int free = 0;
            for (int i = 0; i < windows; i++) {
                free += at(owners, i) == NONE ? 1 : 0;
            }
            return free;
        }

        private void takeEvent(Program program) {
            Task task = taskAt(turn);
            usedWindow = task.condition == NOT_BEGUN ? beginTask(program, turn) : goOn(program, turn);
            task.most = Math.max(task.most, task.course.depth);
            task.events++;
            events++;
            turnEvents++;
            passTurn();
        }

        private void passTurn() {
            if (!isOver(turn) && turnEvents < slice) {
                return;
            }
            // a TASK that alone is left comes behind itself, in a turn that has had no EVENTS
            turn = nextTurn();
            turnEvents = 0;
        }

        private int nextTurn() {
            for (int i = 1; i <= taskCount; i++) {
                int next = turn + i < taskCount ? turn + i : turn + i - taskCount;
                if (!isOver(next)) {
                    return next;
                }
            }
            return NONE;
        }

        private int beginTask(Program program, int number) {
            Task task = taskAt(number);
            int window = usedWindow == NONE ? 0 : behind(usedWindow);
            makeRoom(number, window);
            task.course.begin(program, at(program.taskFunctions, number), program.taskNumbers, number * MOST_PARAMETERS);
            task.condition = UNDER_WAY;
            task.latestWindow = window;
            moveIn(number, 1, window);
            return window;
        }

        private int goOn(Program program, int number) {
            Task task = taskAt(number);
            if (task.resident == 0) {
                comeBack(number);
            }
            int window = task.latestWindow;
            if (task.course.reach(program) == CODE_RETURN) {
                return leaveFrame(number, window);
            }
            return task.course.depth < MOST_FRAMES ? enterFrame(program, number, window) : fail(number, window);
        }

        private void comeBack(int number) {
            int window = usedWindow == NONE ? 0 : behind(usedWindow);
            makeRoom(number, window);
            Task task = taskAt(number);
            task.latestWindow = window;
            moveIn(number, task.course.depth, window);
            task.filled++;
            task.underflows++;
            noteTrap(COMING, number, 1, number);
        }

        private int enterFrame(Program program, int number, int window) {
            int next = behind(window);
            makeRoom(number, next);
            Task task = taskAt(number);
            task.course.enter(program);
            task.latestWindow = next;
            moveIn(number, task.course.depth, next);
            return next;
        }

        private int leaveFrame(int number, int window) {
            Task task = taskAt(number);
            task.course.leave();
            moveOut(number, window);
            if (task.course.depth == 0) {
                task.condition = DONE;
            } else if (task.resident == 0) {
                fill(number, window);
            } else {
                task.latestWindow = ahead(window);
            }
            return task.latestWindow;
        }

        private int fail(int number, int window) {
            for (int i = 0; i < windows; i++) {
                if (at(owners, i) == number) {
                    moveOut(number, i);
                }
            }
            Task task = taskAt(number);
            task.course.clear();
            task.condition = FAILED;
            return window;
        }

        private void makeRoom(int asking, int window) {
            int owner = at(owners, window);
            if (owner == NONE) {
                return;
            }
            int k = taskAt(asking).guessToSpill(way, n);
            Task task = taskAt(owner);
            int count = Math.min(k, owner == asking ? task.resident - 1 : task.resident);
            for (int i = 0; i < count; i++) {
                moveOut(owner, windowOf(owner, task.course.depth - task.resident + 1));
            }
            task.spilled += count;
            taskAt(asking).overflows++;
            noteTrap(OVERFLOW, asking, count, owner);
        }

        private void fill(int number, int window) {
            Task task = taskAt(number);
            int k = task.guessToFill(way, n);
            int count = 0;
            int free = window;
            while (count < k && task.resident < task.course.depth && at(owners, free) == NONE) {
                moveIn(number, task.course.depth - task.resident, free);
                free = ahead(free);
                count++;
            }
            task.filled += count;
            task.underflows++;
            noteTrap(UNDERFLOW, number, count, number);
        }

        private void moveIn(int number, int frame, int window) {
            put(owners, window, number);
            put(frames, window, frame);
            taskAt(number).resident++;
        }

        private void moveOut(int number, int window) {
            put(owners, window, NONE);
            put(frames, window, NONE);
            taskAt(number).resident--;
        }

        private void noteTrap(int sort, int asking, int moved, int owner) {
            int place = traps % TRAPS_KEPT * TRAP_FACTS;
            put(trapFacts, place, sort);
            put(trapFacts, place + 1, asking);
            put(trapFacts, place + 2, moved);
            put(trapFacts, place + 3, owner);
            put(trapFacts, place + 4, events);
            traps++;
            moves += moved;
        }

        private int behind(int window) {
            return window + 1 < windows ? window + 1 : 0;
        }

        private int ahead(int window) {
            return window > 0 ? window - 1 : windows - 1;
        }
    }

    /** The rings ahead of and behind each ACT that is kept; what there is now lies at the position. */
    private static final class History {
        private final Ring[] rings = new Ring[MOST_ACTS + 1];
        int position;
        int last;

        History() {
            for (int i = 0; i < rings.length; i++) {
                rings[i] = new Ring();
            }
        }

        void startAnew(Program program) {
            position = 0;
            last = 0;
            now().startAnew(program);
        }

        void startFrom(Ring kept) {
            position = 0;
            last = 0;
            now().copyFrom(kept);
        }

        Ring now() {
            return position >= 0 && position < rings.length ? rings[position] : rings[0];
        }

        /** The ring that an ACT may change: a copy, so that what was there stays for UNDO. */
        Ring nextAct() {
            Ring old = now();
            if (position == MOST_ACTS) {
                dropOldest();
            } else {
                position++;
            }
            last = position;
            now().copyFrom(old);
            return now();
        }

        boolean stepBack() {
            if (position == 0) {
                return false;
            }
            position--;
            return true;
        }

        boolean stepOn() {
            if (position == last) {
                return false;
            }
            position++;
            return true;
        }

        private void dropOldest() {
            Ring oldest = rings[0];
            for (int i = 0; i + 1 < rings.length; i++) {
                rings[i] = rings[i + 1];
            }
            rings[MOST_ACTS] = oldest;
        }
    }
}
