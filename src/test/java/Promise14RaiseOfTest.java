public final class Promise14RaiseOfTest {

    private static final String ALONE = "pack 5 = 0; pack 6 = 1; raise 1 9 2 = 0; raise 0 7 2 = 1;";

    public static void main(String[] args) {
        Script script = new Script("promise 14: raiseOf");
        open(script);
        ended(script);
        OfARaise least = new OfARaise(script, "raiseOf @ 0");
        least.noSuchRaise();
        OfARaise greatest = new OfARaise(script, "raiseOf @ 6");
        greatest.noSuchRaise();
        what(script);
        script.end();
    }

    private static void open(Script script) {
        script.run("0: it is OPEN", ALONE, "raiseOf 1 0 = 0");
        script.run("1: its package", ALONE, "raiseOf 0 1 = 1; raiseOf 1 1 = 0");
        script.run("1: the greatest package", Given.packs(12, 5), "raise 11 6 0 = 0; raiseOf 0 1 = 11");
        script.run("2: its version", ALONE, "raiseOf 0 2 = 9; raiseOf 1 2 = 7");
        script.run("2: the least and the greatest version", "pack 1 = 0; pack 98 = 1",
                "raise 0 2 0 = 0; raise 1 99 0 = 1; raiseOf 0 2 = 2; raiseOf 1 2 = 99");
        script.run("3: its reviewer", ALONE, "raiseOf 0 3 = 0; raiseOf 1 3 = 1");
        script.run("3: the greatest reviewer", "pack 1 = 0; trust 5 9 = 5; raise 0 2 9 = 0; raiseOf 0 3 = 5");
        script.run("3: NONE without one", "pack 1 = 0; raise 0 2 9 = 0; raiseOf 0 3 = -1");
        script.run("3: that of now", Given.packs(2, 5), """
            need 0 1 0 0 = 1
            patience 1 = 7
            trust 3 8 = 5
            raise 0 6 8 = 0
            raise 1 6 8 = 1
            raiseOf 1 3 = 3
            pass 1 = 1
            raiseOf 1 3 = -1
            close 0
            raiseOf 1 3 = 3
            """);
        script.run("4: not approved, and approved", ALONE,
                "raiseOf 1 4 = 0; approve 1 = 0; raiseOf 1 4 = 1; raiseOf 0 4 = 0");
        script.run("5: the lowest raise of its group, itself alone", ALONE, "raiseOf 0 5 = 0; raiseOf 1 5 = 1");
        script.run("5: the lowest raise of its group, of two", Given.JOINED,
                "raiseOf 0 5 = 0; raiseOf 2 5 = 0; raiseOf 1 5 = 1");
        script.run("6: how many raises its group has, one", ALONE, "raiseOf 0 6 = 1; raiseOf 1 6 = 1");
        script.run("6: how many raises its group has, two", Given.JOINED,
                "raiseOf 0 6 = 2; raiseOf 2 6 = 2; raiseOf 1 6 = 1");
        script.run("6: how many raises its group has, ten", Given.packs(10, 5), Script.each(1, 9, "need @ 0 0 0 = @"),
                "patience 1 = 7;", Script.each(0, 9, "raise @ 6 0 = @"), "pass 8 = 8;",
                Script.each(0, 9, "raiseOf @ 5 = 0; raiseOf @ 6 = 10"));
        script.run("of the fortieth", Given.FORTY, """
            raiseOf 39 0 = 0
            raiseOf 39 1 = 9
            raiseOf 39 2 = 2
            raiseOf 39 3 = 3
            raiseOf 39 4 = 0
            raiseOf 39 5 = 39
            raiseOf 39 6 = 1
            """);
    }

    private static void ended(Script script) {
        script.run("0: DONE, FAILED and CLOSED", Given.ENDED, "raiseOf 0 0 = 1; raiseOf 1 0 = 2; raiseOf 2 0 = 3");
        script.run("1 and 2: its package and version still", Given.ENDED,
                "raiseOf 0 1 = 0; raiseOf 1 1 = 0; raiseOf 2 1 = 0; raiseOf 0 2 = 2; raiseOf 1 2 = 3; raiseOf 2 2 = 3");
        script.run("3: the reviewer when it was OPEN last", """
            trust 0 0 = 5
            trust 1 0 = 5
            pack 1 = 0
            raise 0 2 1 = 0
            approve 0 = 0
            land 0 1 = 1
            raise 0 3 1 = 1
            approve 1 = 0
            land 1 0 = 1
            raise 0 3 1 = 2
            close 2
            trust 0 9 = 0
            trust 2 0 = 5
            raiseOf 0 3 = 2
            raiseOf 1 3 = 2
            raiseOf 2 3 = 2
            """);
        script.run("3: NONE, if it had none when it was OPEN last",
                "pack 1 = 0; raise 0 2 9 = 0; close 0; trust 1 9 = 5; raiseOf 0 3 = -1");
        script.run("4: approved when it was OPEN last, DONE", Given.ENDED, "raiseOf 0 4 = 1");
        script.run("4: approved when it was OPEN last, FAILED", Given.ENDED, "raiseOf 1 4 = 1");
        script.run("4: not approved when it was OPEN last, CLOSED", Given.ENDED, "raiseOf 2 4 = 0");
        script.run("4: approved when it was OPEN last, CLOSED",
                "pack 1 = 0; raise 0 2 0 = 0; approve 0 = 0; close 0; raiseOf 0 4 = 1");
        script.run("5: NONE, if it is not OPEN", Given.ENDED, "raiseOf 0 5 = -1; raiseOf 1 5 = -1; raiseOf 2 5 = -1");
        script.run("6: 0, if it is not OPEN", Given.ENDED, "raiseOf 0 6 = 0; raiseOf 1 6 = 0; raiseOf 2 6 = 0");
        script.run("5 and 6: of two that landed together", Given.JOINED,
                "approve 0 = 0; approve 2 = 0; land 0 1 = 2; raiseOf 0 5 = -1; raiseOf 2 5 = -1;"
                + "raiseOf 0 6 = 0; raiseOf 2 6 = 0");
        script.run("5 and 6: of one closed out of a group", Given.JOINED,
                "close 2; raiseOf 2 5 = -1; raiseOf 2 6 = 0; raiseOf 0 6 = 1");
    }

    private static void what(Script script) {
        script.refused("nothing below 0", ALONE, "raiseOf 0 -1 = IAE", "raiseOf 1 -1 = IAE",
                "raiseOf 0 -2147483648 = IAE");
        script.refused("nothing above 6", ALONE, "raiseOf 0 7 = IAE", "raiseOf 1 8 = IAE",
                "raiseOf 0 2147483647 = IAE");
        script.refused("neither of one that is not OPEN", Given.ENDED, "raiseOf 0 7 = IAE", "raiseOf 1 -1 = IAE",
                "raiseOf 2 7 = IAE");
        script.refused("no such raise comes first", ALONE, "raiseOf 2 7 = IOOBE", "raiseOf 2 -1 = IOOBE",
                "raiseOf -1 7 = IOOBE", "raiseOf -1 -1 = IOOBE");
        script.refused("no such raise comes first, where none is there yet", "", "raiseOf 0 7 = IOOBE",
                "raiseOf 0 -1 = IOOBE");
    }
}
