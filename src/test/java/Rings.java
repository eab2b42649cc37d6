import java.nio.charset.StandardCharsets;

/** What the tests share: feeding a text, and counting the answers that are not as due. */
final class Rings {
    private static int wrong = 0;
    private static int asked = 0;

    private Rings() {
    }

    /** A new object that has the text as its STORE, if that is without FAULT. */
    static WindowRing of(String text) {
        WindowRing ring = new WindowRing();
        feed(ring, text);
        ring.store();
        return ring;
    }

    /** Puts the text behind what is on the TAPE. */
    static void feed(WindowRing ring, String text) {
        int before = ring.about(16);
        byte[] bytes = text.getBytes(StandardCharsets.ISO_8859_1);
        for (int from = 0; from < bytes.length; from += 20) {
            ring.feed(four(bytes, from), four(bytes, from + 4), four(bytes, from + 8), four(bytes, from + 12),
                four(bytes, from + 16));
        }
        ring.end(before + bytes.length);
    }

    static int four(byte[] bytes, int from) {
        int number = 0;
        for (int i = from; i < from + 4; i++) {
            number = number << 8 | (i < bytes.length ? bytes[i] & 255 : 32);
        }
        return number;
    }

    static void due(String what, long want, long got) {
        asked++;
        if (want != got) {
            wrong++;
            System.out.println(what + " answered " + got + ", due is " + want);
        }
    }

    static void due(String what, boolean want, boolean got) {
        due(what, want ? 1 : 0, got ? 1 : 0);
    }

    static void finish(String name) {
        System.out.println(name + ": " + asked + " answers, " + wrong + " not as due");
        if (wrong != 0) {
            System.exit(1);
        }
    }
}
