/**
 * Runs of calls written as text, each run on a new object. A line is a call
 * and what is due: "pack 7 = 0", "land 0 1 = ISE", "close 0" (answers nothing),
 * "told 0 1 = '9'". A # begins a remark.
 */
final class Script {

    private final String title;
    private int calls = 0;
    private int wrong = 0;

    Script(String title) {
        this.title = title;
    }

    void run(String about, String... parts) {
        Bumpherald bot = new Bumpherald();
        for (String line : String.join("\n", parts).split("\n")) {
            String call = line.replaceFirst("#.*", "").trim();
            if (!call.isEmpty()) {
                due(bot, about, call);
            }
        }
    }

    /** So many times the same call, whose answers count up from the first one. */
    static String counted(int times, int first, String call) {
        StringBuilder lines = new StringBuilder();
        for (int i = 0; i < times; i++) {
            lines.append(call).append(" = ").append(first + i).append('\n');
        }
        return lines.toString();
    }

    void end() {
        System.out.println(title + ": " + calls + " calls, " + wrong + " wrong");
        if (wrong != 0 || calls == 0) {
            System.exit(1);
        }
    }

    private void due(Bumpherald bot, String about, String call) {
        String[] sides = call.split(" = ");
        String[] words = sides[0].trim().split(" +");
        int[] given = new int[words.length - 1];
        for (int i = 0; i < given.length; i++) {
            given[i] = Integer.parseInt(words[i + 1]);
        }
        String want = sides.length == 1 ? "void" : wanted(sides[1].trim());
        String got = Calls.answer(bot, words[0], given);
        calls++;
        if (!got.equals(want)) {
            wrong++;
            System.out.println(title + ", " + about + ": " + sides[0] + " answered " + got + ", due is " + want);
        }
    }

    private static String wanted(String text) {
        if (text.startsWith("'")) {
            return Integer.toString(text.charAt(1));
        }
        switch (text) {
            case "IOOBE":
                return "IndexOutOfBoundsException";
            case "IAE":
                return "IllegalArgumentException";
            case "ISE":
                return "IllegalStateException";
            default:
                return text;
        }
    }
}
