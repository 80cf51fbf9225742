import java.util.ArrayList;
import java.util.List;

/**
 * Calls on one new object, a line each, with the answers that are due:
 * <pre>
 * -- a remark
 * serve 0 5 = 0                       the answer
 * serve 4 0 = noSuch                  the exception: noSuch, outOfRange or notTaken
 * draft 0 7                           any answer, but no exception
 * for 1 47: add 0 #-1 0 # = #         once for each number from 1 to 47
 * each -1 4 MIN: live # = noSuch      once for each of these numbers
 * </pre>
 */
final class Script {
    /** An object is used for at most so many calls. */
    private static final int MOST = 512;

    private final MasterTree x = new MasterTree();
    private final String what;
    private int calls = 0;

    private Script(String what) {
        this.what = what;
    }

    static void run(String what, String text) {
        Script script = new Script(what);
        for (String call : callsOf(text)) {
            script.hold(call);
        }
        Checks.is(what + ": it makes at most 512 calls", script.calls <= MOST, true);
    }

    /** An object on which the calls of a text were made, whatever they answered. */
    static MasterTree make(String text) {
        MasterTree x = new MasterTree();
        answers(x, text);
        return x;
    }

    /** What calls of a text answer, without a look at what is due. */
    static List<String> answers(MasterTree x, String text) {
        List<String> answers = new ArrayList<>();
        for (String call : callsOf(text)) {
            answers.add(Calls.answer(x, call.split("=")[0]));
        }
        return answers;
    }

    /** The calls of a text, each one as often as it comes, with its due answer, if one is told. */
    static List<String> callsOf(String text) {
        List<String> calls = new ArrayList<>();
        for (String line : text.split("\n")) {
            if (!line.isBlank() && !line.trim().startsWith("--")) {
                addCalls(calls, line.trim());
            }
        }
        return calls;
    }

    private void hold(String call) {
        String[] sides = call.split("=");
        String got = Calls.answer(x, sides[0]);
        calls++;
        String due = sides.length > 1 ? due(sides[1].trim()) : got.endsWith("Exception") ? "an answer" : got;
        if (got.equals(due)) {
            Checks.right();
        } else {
            Checks.wrong(what + ": call " + calls + ", " + call.trim() + ", answered " + got);
        }
    }

    private static void addCalls(List<String> calls, String line) {
        int colon = line.indexOf(':');
        if (colon < 0) {
            calls.add(line);
            return;
        }
        String[] head = line.substring(0, colon).split(" +");
        String call = line.substring(colon + 1);
        if (head[0].equals("for")) {
            for (int number = Calls.number(head[1]); number <= Calls.number(head[2]); number++) {
                calls.add(withNumber(call, number));
            }
        } else {
            for (int i = 1; i < head.length; i++) {
                calls.add(withNumber(call, Calls.number(head[i])));
            }
        }
    }

    /** Puts the number for #, and what it is with one more or less for #+1 and #-1, and such. */
    private static String withNumber(String call, int number) {
        StringBuilder text = new StringBuilder();
        for (String word : call.trim().split(" ")) {
            String put = word;
            if (word.equals("#")) {
                put = String.valueOf(number);
            } else if (word.startsWith("#+") || word.startsWith("#-")) {
                put = String.valueOf(number + Integer.parseInt(word.substring(1)));
            }
            text.append(put).append(' ');
        }
        return text.toString();
    }

    private static String due(String word) {
        switch (word) {
            case "noSuch": return Calls.NO_SUCH;
            case "outOfRange": return Calls.OUT_OF_RANGE;
            case "notTaken": return Calls.NOT_TAKEN;
            default: return String.valueOf(Calls.number(word));
        }
    }
}
