/** Calls that many runs begin with. */
final class Given {

    /** Raise 0 is DONE, 1 FAILED, 2 CLOSED, each of package 0, and none is OPEN. */
    static final String ENDED = """
        pack 1 = 0
        raise 0 2 0 = 0
        approve 0 = 0
        land 0 1 = 1
        raise 0 3 0 = 1
        approve 1 = 0
        land 1 0 = 1
        raise 0 3 0 = 2
        close 2
        """;

    /** Of three packages, 0 needs 1; the raises 0 and 2 of them are joined, and 1, of 2, is alone. */
    static final String JOINED = """
        pack 1 = 0
        pack 1 = 1
        pack 1 = 2
        need 0 1 0 0 = 1
        patience 1 = 7
        raise 0 3 0 = 0
        raise 2 4 0 = 1
        raise 1 3 0 = 2
        pass 1 = 1
        raiseOf 2 5 = 0
        """;

    /** Twelve packages, and raises 0 to 39: those from 30 on, of the packages 0 to 9, are OPEN. */
    static final String FORTY = packs(12, 1) + closed(30) + openTen();

    /** The raises 32 and 39, the third and the tenth of those that are OPEN, are in a group. */
    static final String FORTY_JOINED = FORTY + "need 2 9 0 9 = 1; pass 7 = 7; raiseOf 39 5 = 32; raiseOf 32 6 = 2;";

    private Given() {
    }

    static String packs(int count, int version) {
        return Script.each(0, count - 1, "pack " + version + " = @");
    }

    /** So many raises of package 0, all CLOSED. */
    static String closed(int count) {
        return Script.each(0, count - 1, "raise 0 2 0 = @; close @");
    }

    private static String openTen() {
        StringBuilder lines = new StringBuilder();
        for (int pack = 0; pack < 10; pack++) {
            lines.append("raise " + pack + " 2 0 = " + (30 + pack) + ";");
        }
        return lines.toString();
    }
}
