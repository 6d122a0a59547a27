/** Compares answers with those that are due, and tells the ones that are not. */
final class Due {
    private int wrong = 0;
    private int asked = 0;
    private String part = "";

    void part(String name) {
        part = name;
    }

    int asked() {
        return asked;
    }

    void is(String call, long got, long want) {
        asked++;
        if (got != want) {
            wrong++;
            System.out.println(part + ": " + call + " answered " + got + ", due is " + want);
        }
    }

    /** Ends the program with 1 if an answer was not as due. */
    void end() {
        System.out.println(asked + " answers looked at, " + wrong + " not as due");
        if (wrong != 0 || asked == 0) {
            System.exit(1);
        }
    }

    /** Puts bytes on THE TAPE, whatever their number. */
    static void tape(SandPicture x, String bytes) {
        StringBuilder padded = new StringBuilder(bytes);
        while (padded.length() % 12 != 0) {
            padded.append(' ');
        }
        int had = x.count(6);
        for (int i = 0; i < padded.length(); i += 12) {
            x.feed(four(padded, i), four(padded, i + 4), four(padded, i + 8));
        }
        x.trim(had + bytes.length());
    }

    static int text(SandPicture x, String bytes) {
        tape(x, bytes);
        return x.text();
    }

    private static int four(CharSequence s, int at) {
        int v = 0;
        for (int i = 0; i < 4; i++) {
            v = v << 8 | s.charAt(at + i) & 255;
        }
        return v;
    }
}
