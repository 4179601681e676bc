import java.util.ArrayList;
import java.util.List;

/** Counts answers that are due and prints those that are not. */
final class Checks {
    interface Call {
        Object run();
    }

    private final String title;
    private int passed;
    private int failed;

    Checks(String title) {
        this.title = title;
    }

    /** What a call answers, or throws.X if it throws an X. */
    static String answer(Call call) {
        try {
            return String.valueOf(call.run());
        } catch (RuntimeException e) {
            return "throws." + e.getClass().getSimpleName();
        }
    }

    void same(String call, Object got, Object due) {
        if (String.valueOf(got).equals(String.valueOf(due))) {
            passed++;
            return;
        }
        failed++;
        System.out.println(title + ": " + call + " answered " + got + ", due is " + due);
    }

    void answers(String call, Object due, Call made) {
        same(call, answer(made), due);
    }

    /** Ends the program with exit code 1 if an answer was not as due. */
    void end() {
        System.out.println(title + ": " + passed + " checks passed, " + failed + " failed");
        if (failed > 0 || passed == 0) {
            System.exit(1);
        }
    }

    /** Appends a text to the input buffer, filled up with spaces to whole calls of append. */
    static void append(HubTrains trains, String text) {
        for (int[] w : words(text)) {
            trains.append(w[0], w[1], w[2], w[3], w[4]);
        }
    }

    static List<int[]> words(String text) {
        List<int[]> calls = new ArrayList<>();
        for (int at = 0; at < text.length(); at += 20) {
            int[] w = new int[5];
            for (int k = 0; k < 20; k++) {
                int sign = at + k < text.length() ? text.charAt(at + k) : ' ';
                w[k / 4] = w[k / 4] << 8 | sign & 255;
            }
            calls.add(w);
        }
        return calls;
    }

    static int load(HubTrains trains, String text) {
        append(trains, text);
        return trains.load(text.length());
    }

    static HubTrains loaded(String text) {
        HubTrains trains = new HubTrains();
        int stock = load(trains, text);
        if (stock < 0) {
            throw new IllegalStateException("setup with error " + stock + " at " + trains.errorOffset() + ": " + text);
        }
        return trains;
    }
}
