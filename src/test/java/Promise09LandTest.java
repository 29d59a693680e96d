public final class Promise09LandTest {

    private static final String READY = Given.JOINED + "approve 0 = 0; approve 2 = 0;";
    private static final String ALONE = "pack 1 = 0; raise 0 2 0 = 0; approve 0 = 0;";

    /** Six raises in a group, all approved: as many as there are reviewers. */
    private static final String SIX = Given.packs(7, 1) + Script.each(1, 5, "need 0 @ 0 0 = @")
            + "patience 1 = 7;" + Script.each(0, 5, "raise @ 2 0 = @") + "pass 5 = 5; raiseOf 5 6 = 6;"
            + Script.each(0, 5, "approve @ = 0");

    public static void main(String[] args) {
        Script script = new Script("promise 9: land");
        passes(script);
        failsTogether(script);
        failsAlone(script);
        OfARaise passing = new OfARaise(script, "land @ 1");
        passing.noSuchRaise();
        passing.notOpen();
        OfARaise failing = new OfARaise(script, "land @ 0");
        failing.noSuchRaise();
        failing.notOpen();
        cannot(script);
        script.end();
    }

    private static void passes(Script script) {
        script.run("one alone", ALONE, """
            land 0 1 = 1
            version 0 = 2
            raiseOf 0 0 = 1
            raiseOf 0 3 = 0
            raiseOf 0 4 = 1
            raiseOf 0 5 = -1
            raiseOf 0 6 = 0
            load 0 = 0
            """);
        script.run("two, told by the higher one, and no raise besides", READY, """
            land 2 1 = 2
            version 0 = 3
            version 1 = 3
            version 2 = 1
            raiseOf 0 0 = 1
            raiseOf 2 0 = 1
            raiseOf 1 0 = 0
            raiseOf 0 4 = 1
            raiseOf 0 5 = -1
            raiseOf 2 6 = 0
            raiseOf 1 5 = 1
            load 0 = 0
            load 1 = 1
            load 2 = 0
            approve 1 = 0
            land 1 1 = 1
            version 2 = 4
            """);
        script.run("two, told by the lower one", READY,
                "land 0 1 = 2; version 0 = 3; version 1 = 3; raiseOf 2 0 = 1");
        script.run("six", SIX, "land 3 1 = 6;", Script.each(0, 5, "version @ = 2; raiseOf @ 0 = 1; load @ = 0"),
                "version 6 = 1");
        script.run("to the greatest version",
                "pack 98 = 0; raise 0 99 0 = 0; approve 0 = 0; land 0 1 = 1; version 0 = 99");
        script.run("no other group is given reviewers", Given.packs(2, 5), """
            raise 0 6 7 = 0
            raise 1 6 0 = 1
            trust 5 7 = 5
            approve 1 = 0
            land 1 1 = 1
            raiseOf 0 3 = -1
            """);
        script.run("the fortieth raise", Given.FORTY,
                "approve 39 = 0; land 39 1 = 1; version 9 = 2; raiseOf 39 0 = 1");
        script.run("a group with the fortieth raise", Given.FORTY_JOINED, """
            approve 32 = 0
            land 32 1 = ISE
            approve 39 = 0
            land 32 1 = 2
            version 2 = 2
            version 9 = 2
            raiseOf 32 0 = 1
            raiseOf 39 0 = 1
            raiseOf 38 0 = 0
            """);
        script.run("ten, one by one", Given.packs(10, 1), Script.each(0, 9, "raise @ 2 0 = @"),
                Script.each(0, 9, "approve @ = 0; land @ 1 = 1; version @ = 2"), "load 0 = 0");
        script.run("the needs of others are as the new versions are", Given.packs(2, 5), """
            need 0 1 0 9 = 1
            raise 0 6 0 = 0
            fails 0 = 1
            raise 1 6 0 = 1
            fails 1 = 0
            approve 1 = 0
            land 1 1 = 1
            fails 0 = 0
            approve 0 = 0
            land 0 1 = 1
            """);
    }

    private static void failsTogether(Script script) {
        script.run("each is in a group of its own, and not approved", READY, """
            approve 1 = 0
            land 0 0 = 2
            version 0 = 1
            version 1 = 1
            raiseOf 0 0 = 0
            raiseOf 2 0 = 0
            raiseOf 0 4 = 0
            raiseOf 2 4 = 0
            raiseOf 0 5 = 0
            raiseOf 2 5 = 2
            raiseOf 0 6 = 1
            raiseOf 2 6 = 1
            raiseOf 0 3 = 0
            raiseOf 2 3 = 2
            raiseOf 1 4 = 1
            canLand 0 = 0
            """);
        script.run("told by the higher one", READY,
                "land 2 0 = 2; raiseOf 0 5 = 0; raiseOf 2 5 = 2; raiseOf 0 4 = 0");
        script.run("six", SIX, "land 5 0 = 6;",
                Script.each(0, 5, "version @ = 1; raiseOf @ 0 = 0; raiseOf @ 3 = @; raiseOf @ 4 = 0; raiseOf @ 5 = @"));
        script.run("a group with the fortieth raise", Given.FORTY_JOINED, """
            approve 32 = 0
            approve 39 = 0
            land 32 0 = 2
            version 9 = 1
            raiseOf 32 5 = 32
            raiseOf 39 5 = 39
            raiseOf 32 4 = 0
            raiseOf 39 4 = 0
            raiseOf 39 0 = 0
            """);
        script.run("they are as old as before, and joined again on the next day", Given.packs(2, 5), """
            need 0 1 0 0 = 1
            raise 0 6 0 = 0
            raise 1 6 0 = 1
            pass 7 = 7
            approve 0 = 0
            approve 1 = 0
            land 0 0 = 2
            raiseOf 0 6 = 1
            patience 8 = 7
            pass 1 = 8
            raiseOf 0 6 = 2
            raiseOf 0 3 = 0
            raiseOf 1 3 = 1
            raiseOf 0 4 = 0
            """);
        script.run("they keep their reviewers, whatever trust these have now", Given.packs(2, 5), """
            need 0 1 0 0 = 1
            patience 1 = 7
            raise 0 6 3 = 0
            raise 1 6 3 = 1
            pass 1 = 1
            approve 0 = 0
            approve 1 = 0
            trust 0 0 = 5
            trust 1 2 = 5
            land 0 0 = 2
            raiseOf 0 3 = 0
            raiseOf 1 3 = 1
            """);
        script.run("no other group is given reviewers", Given.packs(3, 5), """
            need 0 1 0 0 = 1
            patience 1 = 7
            raise 2 6 7 = 0
            raise 0 6 0 = 1
            raise 1 6 0 = 2
            trust 5 7 = 5
            pass 1 = 1
            approve 1 = 0
            approve 2 = 0
            land 1 0 = 2
            raiseOf 0 3 = -1
            """);
        script.run("parted, they can fail alone, or be closed", Given.packs(2, 5), """
            need 0 1 -9 0 = 1
            need 0 1 0 9 = 2
            patience 1 = 7
            raise 0 6 0 = 0
            raise 1 6 0 = 1
            pass 1 = 1
            approve 0 = 0
            approve 1 = 0
            land 0 0 = 2
            fails 0 = 1
            close 0
            raiseOf 1 0 = 0
            fails 1 = 1
            """);
    }

    private static void failsAlone(Script script) {
        script.run("it has failed, and is told as approved still", ALONE, """
            land 0 0 = 1
            raiseOf 0 0 = 2
            raiseOf 0 3 = 0
            raiseOf 0 4 = 1
            raiseOf 0 5 = -1
            raiseOf 0 6 = 0
            version 0 = 1
            load 0 = 0
            """);
        script.run("a group of one, that was of two, fails for good", Given.packs(2, 5), """
            need 0 1 0 9 = 1
            patience 1 = 7
            raise 0 6 0 = 0
            raise 1 6 0 = 1
            pass 1 = 1
            raiseOf 0 6 = 2
            approve 1 = 0
            close 0
            land 1 0 = 1
            raiseOf 1 0 = 2
            raiseOf 1 4 = 1
            version 1 = 5
            """);
    }

    private static void cannot(Script script) {
        script.refused("not a group that does not go", Given.packs(2, 5) + """
            need 0 1 0 0 = 1
            raise 0 6 0 = 0
            approve 0 = 0
            """, "land 0 1 = ISE", "land 0 0 = ISE");
        script.refused("not a raise that is not approved", "pack 1 = 0; raise 0 2 0 = 0", "land 0 1 = ISE",
                "land 0 0 = ISE");
        script.refused("not a group the lower one of which is not approved", Given.JOINED + "approve 2 = 0",
                "land 0 1 = ISE", "land 2 1 = ISE", "land 0 0 = ISE", "land 2 0 = ISE");
        script.refused("not a group the higher one of which is not approved", Given.JOINED + "approve 0 = 0",
                "land 0 1 = ISE", "land 2 1 = ISE", "land 0 0 = ISE", "land 2 0 = ISE");
        script.refused("not a group of six, five of which are approved", Given.packs(6, 1)
                + Script.each(1, 5, "need 0 @ 0 0 = @") + "patience 1 = 7;" + Script.each(0, 5, "raise @ 2 0 = @")
                + "pass 5 = 5;" + Script.each(0, 4, "approve @ = 0"),
                "land 0 1 = ISE", "land 5 1 = ISE", "land 0 0 = ISE");
        script.refused("not one that is frozen today", ALONE + "freeze 1 0 0 = 1", "land 0 1 = ISE",
                "land 0 0 = ISE");
        script.refused("not a group one package of which is frozen today", READY + "freeze 2 1 1 = 1",
                "land 0 1 = ISE", "land 2 1 = ISE", "land 0 0 = ISE", "land 2 0 = ISE");
        script.refused("not one without a reviewer", "pack 1 = 0; raise 0 2 9 = 0", "land 0 1 = ISE",
                "land 0 0 = ISE");
    }
}
