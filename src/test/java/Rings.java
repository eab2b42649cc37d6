import java.io.IOException;
import java.io.UncheckedIOException;
import java.nio.charset.StandardCharsets;
import java.nio.file.Files;
import java.nio.file.Path;

/** What the tests share: feeding a text, and counting the answers that are not as due. Run from the project's folder. */
final class Rings {
    private static final Path DOCUMENT = Path.of("../shared/DOC.md");
    private static int wrong = 0;
    private static int asked = 0;
    private static int sentences = 0;
    private static String sentence = "";
    private static String document = "";

    private Rings() {
    }

    /** A new object that has the text as its STORE, if that is without FAULT. */
    static WindowRing of(String text) {
        WindowRing ring = new WindowRing();
        feed(ring, text);
        ring.store();
        return ring;
    }

    /** Puts the text behind what is on the TAPE. */
    static void feed(WindowRing ring, String text) {
        int before = ring.about(16);
        byte[] bytes = text.getBytes(StandardCharsets.ISO_8859_1);
        for (int from = 0; from < bytes.length; from += 20) {
            ring.feed(four(bytes, from), four(bytes, from + 4), four(bytes, from + 8), four(bytes, from + 12),
                four(bytes, from + 16));
        }
        ring.end(before + bytes.length);
    }

    static int four(byte[] bytes, int from) {
        int number = 0;
        for (int i = from; i < from + 4; i++) {
            number = number << 8 | (i < bytes.length ? bytes[i] & 255 : 32);
        }
        return number;
    }

    /** The sentence that is tried from now on; it is told with each wrong answer, and must stand in the document so. */
    static void sentence(String words) {
        sentence = words;
        sentences++;
        if (Files.isReadable(DOCUMENT)) {
            due("the document says so", true, document().contains(words));
        }
    }

    private static String document() {
        if (document.isEmpty()) {
            try {
                document = Files.readString(DOCUMENT).replaceAll("\\s+", " ");
            } catch (IOException e) {
                throw new UncheckedIOException(e);
            }
        }
        return document;
    }

    static void due(String what, long want, long got) {
        asked++;
        if (want != got) {
            wrong++;
            System.out.println((sentence.isEmpty() ? "" : "\"" + sentence + "\": ") + what + " answered " + got + ", due is "
                + want);
        }
    }

    static void due(String what, boolean want, boolean got) {
        due(what, want ? 1 : 0, got ? 1 : 0);
    }

    /** A text with a | where its FAULT is due. */
    static void fault(int code, String marked) {
        int place = marked.indexOf('|');
        String text = marked.substring(0, place) + marked.substring(place + 1);
        WindowRing ring = new WindowRing();
        feed(ring, text);
        due("store of " + marked, -1, ring.store());
        due("fault(0) of " + marked, code, ring.fault(0));
        due("fault(1) of " + marked, place, ring.fault(1));
        due("about(16) behind " + marked, 0, ring.about(16));
    }

    /** A text without FAULT, and how many TASKS it has. */
    static WindowRing good(int tasks, String text) {
        WindowRing ring = new WindowRing();
        feed(ring, text);
        due("store of " + text, tasks, ring.store());
        due("fault(0) of " + text, 0, ring.fault(0));
        due("fault(1) of " + text, -1, ring.fault(1));
        return ring;
    }

    /** Whose FRAME lies in each WINDOW, and which: two numbers a WINDOW, from 0 on; none behind the last. */
    static void windows(WindowRing ring, int... taskAndFrame) {
        int last = taskAndFrame.length / 2;
        for (int window = 0; window < last; window++) {
            due("window(" + window + ", 0)", taskAndFrame[2 * window], ring.window(window, 0));
            due("window(" + window + ", 1)", taskAndFrame[2 * window + 1], ring.window(window, 1));
        }
        due("window(" + last + ", 0)", -2, ring.window(last, 0));
    }

    /** The i-th latest TRAP. */
    static void trap(WindowRing ring, int i, int... facts) {
        for (int what = 0; what < facts.length; what++) {
            due("trap(" + i + ", " + what + ")", facts[what], ring.trap(i, what));
        }
    }

    static void finish(String name) {
        System.out.println(name + ": " + asked + " answers" + (sentences > 0 ? " by " + sentences + " sentences" : "") + ", "
            + wrong + " not as due");
        if (wrong != 0) {
            System.exit(1);
        }
    }
}
