import java.nio.charset.StandardCharsets;

/** What the project's tests share: rows that are due, and texts put on the tape. */
final class Check {
    private final String name;
    private int rows = 0;
    private int wrong = 0;

    Check(String name) {
        this.name = name;
    }

    void due(String call, long want, long got) {
        rows++;
        if (got != want) {
            wrong++;
            System.out.println(name + ": " + call + " answered " + got + ", due is " + want);
        }
    }

    void due(String call, boolean want, boolean got) {
        due(call, want ? 1 : 0, got ? 1 : 0);
    }

    int wrongs() {
        return wrong;
    }

    int rows() {
        return rows;
    }

    void finish() {
        if (wrong != 0) {
            System.out.println(name + ": " + wrong + " of " + rows + " answers are not as due");
            System.exit(1);
        }
        System.out.println(name + ": all " + rows + " answers are as due");
    }

    static byte[] bytes(String text) {
        return text.getBytes(StandardCharsets.ISO_8859_1);
    }

    /** Puts a text on an empty tape; the last feed's rest is cut off. */
    static void feed(CradleTreaty x, byte[] text) {
        for (int at = 0; at < text.length; at += 20) {
            x.feed(number(text, at), number(text, at + 4), number(text, at + 8),
                    number(text, at + 12), number(text, at + 16));
        }
        x.end(text.length);
    }

    private static int number(byte[] text, int at) {
        int number = 0;
        for (int i = at; i < at + 4; i++) {
            number = number << 8 | (i < text.length ? text[i] & 255 : 0);
        }
        return number;
    }

    static int treaty(CradleTreaty x, String text) {
        feed(x, bytes(text));
        return x.treaty();
    }

    static CradleTreaty told(String text) {
        CradleTreaty x = new CradleTreaty();
        if (treaty(x, text) < 0) {
            throw new IllegalStateException("fault " + x.fault(0) + " at " + x.fault(1) + ": " + text);
        }
        return x;
    }
}
