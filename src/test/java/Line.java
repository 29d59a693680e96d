import java.util.ArrayList;
import java.util.List;

/**
 * A call written as text, with what is due: "pack 7 = 0", "land 0 1 = ISE",
 * "close 0" (answers nothing), "told 0 1 = '9'". A line or a ; ends it, and a #
 * begins a remark.
 */
record Line(String name, int[] given, String due) {

    private static final String BEHIND = "Exception";

    static List<Line> all(String... parts) {
        List<Line> lines = new ArrayList<>();
        for (String text : String.join("\n", parts).split("\n")) {
            int end = text.indexOf('#');
            for (String call : (end < 0 ? text : text.substring(0, end)).split(";")) {
                if (!call.isBlank()) {
                    lines.add(of(call.trim()));
                }
            }
        }
        return lines;
    }

    private static Line of(String call) {
        int sign = call.indexOf(" = ");
        String[] words = (sign < 0 ? call : call.substring(0, sign)).trim().split(" +");
        int[] given = new int[words.length - 1];
        for (int i = 0; i < given.length; i++) {
            given[i] = Integer.parseInt(words[i + 1]);
        }
        return new Line(words[0], given, sign < 0 ? "void" : dueIn(call.substring(sign + 3).trim()));
    }

    private static String dueIn(String text) {
        if (text.startsWith("'")) {
            return Integer.toString(text.charAt(1));
        }
        switch (text) {
            case "IOOBE":
                return "IndexOutOfBounds" + BEHIND;
            case "IAE":
                return "IllegalArgument" + BEHIND;
            case "ISE":
                return "IllegalState" + BEHIND;
            default:
                return text;
        }
    }

    boolean isRefused() {
        return due.endsWith(BEHIND);
    }

    String answerOf(Object bot) {
        return Calls.answer(bot, name, given);
    }

    @Override
    public String toString() {
        StringBuilder text = new StringBuilder(name);
        for (int number : given) {
            text.append(' ').append(number);
        }
        return text.toString();
    }
}
