import java.nio.charset.StandardCharsets;

/** What the tests share: answers that are due, and texts that come to the tape. */
final class Check {
    private int asked = 0;
    private int wrong = 0;

    void due(String what, long got, long want) {
        asked++;
        if (got != want) {
            wrong++;
            System.out.println(what + " answered " + got + ", due is " + want);
        }
    }

    void due(String what, boolean got, boolean want) {
        due(what, got ? 1 : 0, want ? 1 : 0);
    }

    /** An answer together with the STATUS behind it. */
    void due(String what, BarkMoney x, long got, long want, int status) {
        due(what, got, want);
        due(what + ", its status()", x.status(), status);
    }

    void due(String what, BarkMoney x, boolean got, boolean want, int status) {
        due(what, got, want);
        due(what + ", its status()", x.status(), status);
    }

    void end() {
        System.out.println(wrong == 0 ? asked + " answers are as due" : wrong + " of " + asked + " answers are not as due");
        if (wrong != 0) {
            System.exit(1);
        }
    }

    static byte[] bytes(String text) {
        return text.getBytes(StandardCharsets.ISO_8859_1);
    }

    /** Feeds a text, with zeros behind it to the next twenty; answers its length. */
    static int feed(BarkMoney x, String text) {
        byte[] b = bytes(text);
        for (int i = 0; i < b.length; i += 20) {
            x.feed(word(b, i), word(b, i + 4), word(b, i + 8), word(b, i + 12), word(b, i + 16));
        }
        return b.length;
    }

    static int word(byte[] b, int from) {
        int v = 0;
        for (int i = from; i < from + 4; i++) {
            v = v << 8 | (i < b.length ? b[i] & 255 : 0);
        }
        return v;
    }

    static int land(BarkMoney x, String text) {
        return x.land(feed(x, text));
    }

    static int reigns(BarkMoney x, String text) {
        return x.reigns(feed(x, text));
    }

    static BarkMoney in(String land) {
        BarkMoney x = new BarkMoney();
        land(x, land);
        if (x.status() != 0) {
            throw new IllegalStateException("fault " + x.fault(0) + " at " + x.fault(1) + " of " + land);
        }
        return x;
    }
}
