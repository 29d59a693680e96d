/** What all calls are held to that are of a raise: a @ stands for its number in the call. */
final class OfARaise {

    private static final String ONE = "pack 1 = 0; raise 0 2 0 = 0";

    private final Script script;
    private final String call;

    OfARaise(Script script, String call) {
        this.script = script;
        this.call = call;
    }

    void noSuchRaise() {
        script.refused("no raise, as none is there yet", "", of(0) + " = IOOBE");
        script.refused("no raise, as packages alone are there", "pack 1 = 0", of(0) + " = IOOBE");
        script.refused("no raise below 0", ONE, of(-1) + " = IOOBE", of(Integer.MIN_VALUE) + " = IOOBE");
        script.refused("no raise above the last one", ONE, of(1) + " = IOOBE", of(39) + " = IOOBE",
                of(40) + " = IOOBE", of(Integer.MAX_VALUE) + " = IOOBE");
        script.refused("no raise above the fortieth", Given.FORTY, of(40) + " = IOOBE", of(41) + " = IOOBE",
                of(-1) + " = IOOBE");
    }

    void notOpen() {
        script.refused("not of one that is DONE", Given.ENDED, of(0) + " = ISE");
        script.refused("not of one that is FAILED", Given.ENDED, of(1) + " = ISE");
        script.refused("not of one that is CLOSED", Given.ENDED, of(2) + " = ISE");
        script.refused("not of one that was one of a group, and is DONE", Given.JOINED + """
            approve 0 = 0
            approve 2 = 0
            land 2 1 = 2
            """, of(0) + " = ISE", of(2) + " = ISE");
        script.refused("not of one that was one of a group, and is CLOSED", Given.JOINED + "close 0",
                of(0) + " = ISE");
    }

    private String of(int raise) {
        return call.replace("@", Integer.toString(raise));
    }
}
