/** Counts and prints the answers that are not the ones that are due. */
final class Check {
    private int wrong = 0;
    private int asked = 0;
    private String part = "";

    void part(String name) {
        part = name;
    }

    void due(String call, long got, long want) {
        asked++;
        if (got != want) {
            wrong++;
            System.out.println(part + ": " + call + " answered " + got + ", due is " + want);
        }
    }

    void due(String call, boolean got, boolean want) {
        due(call, got ? 1 : 0, want ? 1 : 0);
    }

    void end() {
        System.out.println(asked + " answers asked, " + wrong + " not as due");
        if (wrong != 0) {
            System.exit(1);
        }
    }

    /** Feeds a text of 2,000 bytes at most: blanks fill up the last twenty and go back again. */
    static void feed(SaidRecord x, String text) {
        int room = (text.length() + 19) / 20 * 20;
        StringBuilder padded = new StringBuilder(text);
        while (padded.length() < room) {
            padded.append(' ');
        }
        for (int i = 0; i < room; i += 20) {
            x.feed(four(padded, i), four(padded, i + 4), four(padded, i + 8), four(padded, i + 12),
                    four(padded, i + 16));
        }
        x.back(room - text.length());
    }

    static int four(CharSequence text, int at) {
        return text.charAt(at) << 24 | text.charAt(at + 1) << 16 | text.charAt(at + 2) << 8
                | text.charAt(at + 3);
    }

    static int read(SaidRecord x, String text) {
        feed(x, text);
        return x.read();
    }
}
