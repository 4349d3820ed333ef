import java.nio.charset.StandardCharsets;

/** Types texts on the tape of a RowGrader, and counts the answers that are not as due. */
final class Typist {
    private final String name;
    private int asked;
    private int wrong;

    Typist(String name) {
        this.name = name;
    }

    void due(String call, long got, long want) {
        asked++;
        if (got == want) return;
        wrong++;
        System.out.println(name + ": " + call + " answered " + got + ", due is " + want);
    }

    /** All of the text behind the tape, eight bytes at a time. */
    static void type(RowGrader grader, String text) {
        byte[] bytes = text.getBytes(StandardCharsets.ISO_8859_1);
        for (int at = 0; at < bytes.length; at += 8) {
            int n = Math.min(8, bytes.length - at);
            grader.feed(packed(bytes, at, n), n);
        }
    }

    static long packed(byte[] bytes, int at, int n) {
        long w = 0;
        for (int i = 0; i < n; i++) w = w << 8 | bytes[at + i] & 255;
        return w;
    }

    static int row(RowGrader grader, String text) {
        type(grader, text);
        return grader.row();
    }

    static int goal(RowGrader grader, String text) {
        type(grader, text);
        return grader.goal();
    }

    static int word(RowGrader grader, int language, int which, String text) {
        type(grader, text);
        return grader.word(language, which);
    }

    /** Ends the program, with exit code 1 if an answer was wrong. */
    void end() {
        System.out.println(name + ": " + asked + " answers, " + wrong + " not as due");
        if (wrong > 0 || asked == 0) System.exit(1);
    }
}
