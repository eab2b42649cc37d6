import java.nio.charset.StandardCharsets;
import java.util.ArrayList;
import java.util.List;
import java.util.Random;

/** Runs of calls by chance, each answer beside that of the Model. Arguments: the first seed, how many. */
public final class ModelTest {
    private final Random random;
    private final Texts texts;
    private final WindowRing ring = new WindowRing();
    private final Model model = new Model();
    private final List<String> calls = new ArrayList<>();
    private boolean good = true;
    private static int goodTexts = 0;
    private static int spoiltTexts = 0;
    private static final int[] FAULTS = new int[6];

    private ModelTest(long seed) {
        random = new Random(seed);
        texts = new Texts(random);
    }

    public static void main(String[] args) {
        int first = args.length > 0 ? Integer.parseInt(args[0]) : 1;
        int count = args.length > 1 ? Integer.parseInt(args[1]) : 400;
        int wrong = 0;
        int asked = 0;
        for (int seed = first; seed < first + count && wrong < 3; seed++) {
            ModelTest test = new ModelTest(seed);
            if (!test.go()) {
                wrong++;
                System.out.println("seed " + seed);
                for (int i = Math.max(0, test.calls.size() - 25); i < test.calls.size(); i++) {
                    System.out.println("  " + test.calls.get(i));
                }
            }
            asked += test.calls.size();
        }
        System.out.println("ModelTest: " + asked + " answers, texts " + goodTexts + " good, " + spoiltTexts
            + " with faults " + java.util.Arrays.toString(FAULTS) + ", runs not as due " + wrong);
        if (wrong != 0) {
            System.exit(1);
        }
    }

    private boolean go() {
        if (random.nextInt(10) > 0) {
            tell(texts.good());
        }
        while (good && calls.size() < 500) {
            if (random.nextInt(120) == 0) {
                tell(random.nextInt(3) == 0 ? texts.good() : texts.spoilt());
            } else if (random.nextInt(200) == 0) {
                tellMany();
            } else {
                ask();
            }
            if (model.tooFar()) {
                break;
            }
        }
        return good;
    }

    private void tellMany() {
        for (int i = 0; i < 5 && good; i++) {
            tell(texts.spoilt());
        }
    }

    private boolean same(String call, int got, int want) {
        calls.add(call + " = " + got + (got == want ? "" : "   BUT DUE IS " + want));
        good &= got == want;
        return good;
    }

    private boolean same(String call, boolean got, boolean want) {
        return same(call, got ? 1 : 0, want ? 1 : 0);
    }

    private void tell(String text) {
        byte[] bytes = text.getBytes(StandardCharsets.ISO_8859_1);
        if (bytes.length > 980) {
            return;
        }
        calls.add("TEXT " + text.replace("\n", "\\n"));
        ring.end(0);
        model.end(0);
        for (int i = 0; i < bytes.length; i += 20) {
            int a = Rings.four(bytes, i);
            int b = Rings.four(bytes, i + 4);
            int c = Rings.four(bytes, i + 8);
            int d = Rings.four(bytes, i + 12);
            int e = Rings.four(bytes, i + 16);
            same("feed", ring.feed(a, b, c, d, e), model.feed(a, b, c, d, e));
        }
        same("end", ring.end(bytes.length), model.end(bytes.length));
        int stored = ring.store();
        same("store", stored, model.store());
        same("fault(0)", ring.fault(0), model.fault(0));
        same("fault(1)", ring.fault(1), model.fault(1));
        FAULTS[model.fault(0)]++;
        if (stored >= 0) {
            goodTexts++;
        } else {
            spoiltTexts++;
        }
    }

    private int small(int most) {
        int choice = random.nextInt(30);
        if (choice == 0) {
            return -1 - random.nextInt(3);
        }
        if (choice == 1) {
            return most + random.nextInt(3);
        }
        if (choice == 2) {
            return random.nextInt();
        }
        return random.nextInt(most + 1);
    }

    private void ask() {
        int choice = random.nextInt(100);
        if (choice < 22) {
            int n = random.nextInt(3) == 0 ? small(500) : small(12);
            same("run(" + n + ")", ring.run(n), model.run(n));
        } else if (choice < 40) {
            changes();
        } else if (choice < 75) {
            looks();
        } else {
            tries();
        }
    }

    private void changes() {
        int x = small(4);
        int y = small(17);
        switch (random.nextInt(10)) {
            case 0:
                same("handler(" + x + ", " + y + ")", ring.handler(x, y), model.handler(x, y));
                break;
            case 1: {
                int trap = small(99);
                int move = small(99);
                same("price(" + trap + ", " + move + ")", ring.price(trap, move), model.price(trap, move));
                break;
            }
            case 2: {
                int n = random.nextBoolean() ? small(5) : small(51);
                same("slice(" + n + ")", ring.slice(n), model.slice(n));
                break;
            }
            case 3:
            case 4:
                same("again(" + x + ")", ring.again(x), model.again(x));
                break;
            case 5:
            case 6:
                same("undo()", ring.undo(), model.undo());
                break;
            case 7:
                same("redo()", ring.redo(), model.redo());
                break;
            case 8: {
                int box = small(2);
                same("image(" + box + ")", ring.image(box), model.image(box));
                break;
            }
            default: {
                int box = small(2);
                if (random.nextInt(3) == 0) {
                    same("back(" + box + ")", ring.back(box), model.back(box));
                }
            }
        }
    }

    private void looks() {
        int task = small(4);
        switch (random.nextInt(9)) {
            case 0: {
                int what = small(12);
                same("task(" + task + ", " + what + ")", ring.task(task, what), model.task(task, what));
                break;
            }
            case 1:
                same("result(" + task + ")", ring.result(task), model.result(task));
                break;
            case 2: {
                int window = small(12);
                int what = small(2);
                same("window(" + window + ", " + what + ")", ring.window(window, what), model.window(window, what));
                break;
            }
            case 3: {
                int window = small(12);
                int i = small(4);
                same("register(" + window + ", " + i + ")", ring.register(window, i), model.register(window, i));
                break;
            }
            case 4: {
                int frame = random.nextBoolean() ? small(8) : small(61);
                int i = small(4);
                same("value(" + task + ", " + frame + ", " + i + ")", ring.value(task, frame, i), model.value(task, frame, i));
                break;
            }
            case 5: {
                int frame = random.nextBoolean() ? small(8) : small(61);
                same("where(" + task + ", " + frame + ")", ring.where(task, frame), model.where(task, frame));
                break;
            }
            case 6: {
                int i = small(20);
                int what = small(5);
                same("trap(" + i + ", " + what + ")", ring.trap(i, what), model.trap(i, what));
                break;
            }
            case 7:
                same("law()", ring.law(), model.law());
                break;
            default: {
                int what = small(18);
                same("about(" + what + ")", ring.about(what), model.about(what));
            }
        }
    }

    private void tries() {
        int task = small(4);
        int function = small(6);
        int way = small(4);
        int n = small(17);
        int what = small(4);
        int a = small(20);
        int b = small(9);
        int c = random.nextInt(5) == 0 ? random.nextInt() : small(9);
        int d = small(9);
        String four = a + ", " + b + ", " + c + ", " + d;
        switch (random.nextInt(12)) {
            case 0:
                same("plain(" + function + ", " + four + ")", ring.plain(function, a, b, c, d), model.plain(function, a, b, c, d));
                break;
            case 1:
            case 2:
                same("profile(" + function + ", " + four + ", " + what + ")", ring.profile(function, a, b, c, d, what),
                    model.profile(function, a, b, c, d, what));
                break;
            case 3: {
                int frames = random.nextBoolean() ? small(10) : small(61);
                same("depths(" + task + ", " + frames + ")", ring.depths(task, frames), model.depths(task, frames));
                break;
            }
            case 4:
            case 5:
                same("alone(" + task + ", " + way + ", " + n + ", " + what + ")", ring.alone(task, way, n, what),
                    model.alone(task, way, n, what));
                break;
            case 6: {
                int w = small(12);
                same("least(" + task + ", " + w + ")", ring.least(task, w), model.least(task, w));
                break;
            }
            case 7:
                same("suits(" + task + ")", ring.suits(task), model.suits(task));
                break;
            case 8:
            case 9:
                same("would(" + way + ", " + n + ", " + what + ")", ring.would(way, n, what), model.would(way, n, what));
                break;
            case 10:
                same("best(" + what + ")", ring.best(what), model.best(what));
                break;
            default:
                if (random.nextInt(5) == 0) {
                    same("bestSlice(" + what + ")", ring.bestSlice(what), model.bestSlice(what));
                }
        }
    }
}
