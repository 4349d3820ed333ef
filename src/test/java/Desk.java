import java.lang.reflect.InvocationTargetException;
import java.lang.reflect.Method;
import java.util.HashMap;
import java.util.Map;

/**
 * A grader that is asked by the texts of calls, as "place(0, 1, MIN, 5)"; its calls are counted, since
 * the document says nothing of an object's answers after its 512th call.
 */
final class Desk {
    static final int UNKNOWN = -1, OUTSIDE = -2, STATE = -3, FULL = -4, NONE = -5;
    /** Beside each bound its neighbours are asked; these lie far outside of all. */
    static final String[] FAR = {"MIN", "-1000000", "1000000", "MAX"};

    private static final int MOST_CALLS = 512;
    private static final Map<String, Method> FACE = new HashMap<>();

    private final Typist typist;
    private String sentence = "";
    private RowGrader grader = new RowGrader();
    private int calls;

    Desk(String name) {
        typist = new Typist(name);
        for (Method method : RowGrader.class.getDeclaredMethods()) FACE.put(method.getName(), method);
    }

    /** A new object for a sentence of the document. */
    void begin(String newSentence) {
        sentence = newSentence;
        grader = new RowGrader();
        calls = 0;
    }

    void begin(String newSentence, int points) {
        begin(newSentence);
        ask("points(" + points + ")", 1);
    }

    int calls() {
        return calls;
    }

    int call(String text) {
        int open = text.indexOf('(');
        String inside = text.substring(open + 1, text.length() - 1).trim();
        String[] told = inside.isEmpty() ? new String[0] : inside.split(", *");
        Method method = FACE.get(text.substring(0, open));
        if (method == null) throw new IllegalArgumentException("no such call: " + text);
        Object[] arguments = new Object[told.length];
        for (int i = 0; i < told.length; i++) {
            if (method.getParameterTypes()[i] == long.class) arguments[i] = Long.valueOf(told[i]);
            else arguments[i] = told[i].equals("MIN") ? Integer.MIN_VALUE : told[i].equals("MAX") ? Integer.MAX_VALUE : Integer.valueOf(told[i]);
        }
        return invoke(method, arguments);
    }

    private int invoke(Method method, Object[] arguments) {
        calls++;
        if (calls > MOST_CALLS) throw new IllegalStateException("too many calls for: " + sentence);
        try {
            return (Integer) method.invoke(grader, arguments);
        } catch (IllegalAccessException | InvocationTargetException thrown) {
            throw new IllegalStateException(sentence + ": " + method.getName(), thrown);
        }
    }

    void ask(String call, int want) {
        due(call, call(call), want);
    }

    void due(String what, int got, int want) {
        typist.due("'" + sentence + "', " + what, got, want);
    }

    /** The call with each of these in the place of the #, always with the same answer. */
    void askEach(String call, int want, String... arguments) {
        for (String argument : arguments) ask(call.replace("#", argument), want);
    }

    /** The call with 0, 1, .. in the place of the #. */
    void askFrom(int first, String call, int... wants) {
        for (int i = 0; i < wants.length; i++) ask(call.replace("#", String.valueOf(first + i)), wants[i]);
    }

    void type(String text) {
        byte[] bytes = text.getBytes(java.nio.charset.StandardCharsets.ISO_8859_1);
        for (int at = 0; at < bytes.length; at += 8) {
            int n = Math.min(8, bytes.length - at);
            call("feed(" + Typist.packed(bytes, at, n) + ", " + n + ")");
        }
    }

    /** Each text is a row, with the next number. */
    void rows(String... texts) {
        int former = call("told(2)");
        for (int i = 0; i < texts.length; i++) row(texts[i], former + i + 1);
    }

    void row(String text, int want) {
        type(text);
        due("row() of '" + text + "'", call("row()"), want);
    }

    void goal(String text, int want) {
        type(text);
        due("goal() of '" + text + "'", call("goal()"), want);
    }

    void word(int language, int which, String text, int want) {
        type(text);
        String call = "word(" + language + ", " + which + ")";
        due(call + " of '" + text + "'", call(call), want);
    }

    /** row() refuses each text at the place where it has a # (which is no part of the text). */
    void refuse(String... texts) {
        for (String text : texts) {
            row(text.replace("#", ""), -100 - text.indexOf('#'));
            ask("told(3)", 0);
        }
    }

    /** Places of the points A, B, .. of a figure: x, y, x, y, .. */
    void draw(int figure, int... places) {
        for (int p = 0; 2 * p + 1 < places.length; p++) {
            ask("place(" + figure + ", " + p + ", " + places[2 * p] + ", " + places[2 * p + 1] + ")", 1);
        }
    }

    void end() {
        typist.end();
    }
}
