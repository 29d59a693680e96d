public final class Promise10CloseTest {

    /** The raises 32 and 39, of a risk of 7, and eight others are OPEN; reviewer 4 alone may have the two. */
    private static final String RISKY_FORTY = Given.packs(12, 1) + Given.closed(30) + "need 2 9 0 9 = 1; trust 4 7 = 5;"
            + Script.each(0, 1, "raise @ 2 0 = 3@") + "raise 2 2 7 = 32;" + Script.each(3, 8, "raise @ 2 0 = 3@")
            + "raise 9 2 7 = 39; pass 7 = 7; raiseOf 39 5 = 32; raiseOf 32 3 = 4; raiseOf 39 3 = -1;";

    /** Raises 0 to 2 of the packages 1, 0 and 2 in a group: 0 needs both others. */
    private static final String THREE = Given.packs(3, 5) + """
        need 0 1 0 0 = 1
        need 0 2 0 0 = 2
        patience 1 = 7
        raise 1 6 0 = 0
        raise 0 6 0 = 1
        raise 2 6 0 = 2
        pass 1 = 1
        raiseOf 2 5 = 0
        raiseOf 2 6 = 3
        """;

    public static void main(String[] args) {
        Script script = new Script("promise 10: close");
        closed(script);
        OfARaise calls = new OfARaise(script, "close @");
        calls.noSuchRaise();
        calls.notOpen();
        groups(script);
        reviewers(script);
        script.end();
    }

    private static void closed(Script script) {
        script.run("one alone", "pack 1 = 0; raise 0 2 0 = 0", """
            close 0
            raiseOf 0 0 = 3
            raiseOf 0 5 = -1
            raiseOf 0 6 = 0
            version 0 = 1
            load 0 = 0
            """);
        script.run("it keeps its reviewer and approval", "pack 1 = 0; raise 0 2 0 = 0; approve 0 = 0",
                "close 0; raiseOf 0 3 = 0; raiseOf 0 4 = 1");
        script.run("it keeps that it had none", "pack 1 = 0; raise 0 2 9 = 0",
                "close 0; raiseOf 0 3 = -1; raiseOf 0 4 = 0");
        script.run("one that is frozen, or does not go, or is not approved", Given.packs(2, 1),
                "need 0 1 0 0 = 1; freeze 3 0 1000 = 1; raise 0 2 0 = 0; close 0; raiseOf 0 0 = 3");
        script.run("the fortieth raise", Given.FORTY,
                "close 39; raiseOf 39 0 = 3; raiseOf 38 0 = 0; close 30; raiseOf 30 0 = 3");
        script.run("ten, from the last one on", Given.packs(10, 1), Script.each(0, 9, "raise @ 2 0 = @"), """
            close 9
            close 8
            close 7
            close 6
            close 5
            close 4
            close 3
            close 2
            close 1
            raiseOf 0 0 = 0
            raiseOf 1 0 = 3
            fewest 0 = 1
            close 0
            load 0 = 0
            """);
        script.run("ten, from the first one on", Given.packs(10, 1), Script.each(0, 9, "raise @ 2 0 = @"),
                Script.each(0, 8, "raiseOf @ 5 = @; close @; raiseOf @ 5 = -1"),
                "raiseOf 9 0 = 0; fewest 9 = 1; close 9; raiseOf 9 0 = 3");
    }

    private static void groups(Script script) {
        script.run("out of its group of two: the other one is alone", Given.JOINED, """
            close 0
            raiseOf 2 5 = 2
            raiseOf 2 6 = 1
            raiseOf 1 5 = 1
            raiseOf 1 6 = 1
            """);
        script.run("the lowest of three", THREE,
                "close 0; raiseOf 1 5 = 1; raiseOf 2 5 = 1; raiseOf 1 6 = 2; raiseOf 2 6 = 2");
        script.run("the middle one of three", THREE,
                "close 1; raiseOf 0 5 = 0; raiseOf 2 5 = 0; raiseOf 2 6 = 2; fails 0 = 2");
        script.run("the highest of three", THREE,
                "close 2; raiseOf 0 5 = 0; raiseOf 1 5 = 0; raiseOf 1 6 = 2; fails 0 = 1");
        script.run("all three", THREE,
                "close 0; close 2; raiseOf 1 5 = 1; raiseOf 1 6 = 1; close 1; raiseOf 1 6 = 0");
        script.run("what is left is approved as it was", THREE,
                "approve 1 = 0; close 0; raiseOf 1 4 = 1; raiseOf 2 4 = 0; approve 1 = 1");
        script.run("what is left is as old as its oldest one", Given.packs(3, 5), """
            need 0 1 0 0 = 1
            need 0 1 0 0 = 2
            need 2 1 0 0 = 3
            raise 0 6 0 = 0
            pass 5 = 5
            raise 1 6 0 = 1
            pass 2 = 7
            raiseOf 1 5 = 0
            close 0
            raise 2 6 0 = 2
            raise 0 6 0 = 3
            pass 4 = 11
            raiseOf 1 6 = 1
            pass 1 = 12
            raiseOf 1 6 = 2
            raiseOf 3 5 = 1
            """);
    }

    private static void reviewers(Script script) {
        script.run("it is nobody's load", "pack 1 = 0; raise 0 2 0 = 0", "load 0 = 1; close 0; load 0 = 0");
        script.run("one of the rest without a reviewer is given to him that it had", Given.packs(2, 5), """
            need 0 1 0 0 = 1
            patience 1 = 7
            trust 3 8 = 5
            raise 0 6 8 = 0
            raise 1 6 8 = 1
            raiseOf 1 3 = 3
            approve 0 = 0
            approve 1 = 0
            pass 1 = 1
            raiseOf 0 3 = 3
            raiseOf 0 4 = 1
            raiseOf 1 3 = -1
            raiseOf 1 4 = 0
            close 0
            raiseOf 1 3 = 3
            raiseOf 1 4 = 0
            """);
        script.run("a lower one of its group as well", Given.packs(2, 5), """
            need 0 1 0 0 = 1
            patience 1 = 7
            raise 0 6 7 = 0
            trust 2 7 = 5
            raise 1 6 7 = 1
            pass 1 = 1
            raiseOf 0 6 = 2
            raiseOf 0 3 = -1
            close 1
            raiseOf 0 3 = 2
            raiseOf 1 3 = 2
            load 2 = 1
            """);
        script.run("of two without a reviewer the lower one is given to him", Given.packs(3, 5), """
            need 0 1 0 0 = 1
            need 0 2 0 0 = 2
            patience 1 = 7
            trust 4 6 = 5
            raise 0 6 6 = 0
            raise 1 6 6 = 1
            raise 2 6 6 = 2
            pass 1 = 1
            raiseOf 0 6 = 3
            raiseOf 0 3 = 4
            raiseOf 1 3 = -1
            raiseOf 2 3 = -1
            close 0
            raiseOf 1 3 = 4
            raiseOf 2 3 = -1
            """);
        script.run("the tenth of those that are open, when the other one is closed", RISKY_FORTY,
                "close 32; raiseOf 39 5 = 39; raiseOf 39 6 = 1; raiseOf 39 3 = 4; raiseOf 39 4 = 0; load 4 = 1");
        script.run("not the other one, when the tenth without a reviewer is closed", RISKY_FORTY,
                "approve 32 = 0; close 39; raiseOf 32 6 = 1; raiseOf 32 3 = 4; raiseOf 32 4 = 1; raiseOf 39 3 = -1");
        script.run("to anybody who may by now, though the closed one had none itself", Given.packs(3, 5), """
            need 0 1 0 0 = 1
            need 0 2 0 0 = 2
            patience 1 = 7
            raise 0 6 9 = 0
            raise 1 6 8 = 1
            raise 2 6 7 = 2
            pass 1 = 1
            raiseOf 0 6 = 3
            trust 5 8 = 5
            trust 1 7 = 5
            raiseOf 1 3 = -1
            close 0
            raiseOf 0 3 = -1
            raiseOf 1 3 = 5
            raiseOf 2 3 = 1
            """);
        script.run("the closed one counts no more among those he has", Given.packs(8, 1), """
            need 0 6 0 0 = 1
            need 0 7 0 0 = 2
            patience 1 = 7
            trust 1 7 = 5
            trust 0 9 = 5
            raise 0 2 9 = 0
            raise 1 2 0 = 1
            raise 6 2 9 = 2
            raise 7 2 8 = 3
            raiseOf 1 3 = 1
            raiseOf 2 3 = 0
            raiseOf 3 3 = 0
            pass 1 = 1
            raiseOf 0 6 = 3
            raiseOf 2 3 = -1
            raiseOf 3 3 = -1
            trust 1 9 = 7
            close 0
            raiseOf 2 3 = 0
            raiseOf 3 3 = 1
            """);
        script.run("to none, if nobody may still", Given.packs(2, 5), """
            need 0 1 0 0 = 1
            patience 1 = 7
            raise 0 6 9 = 0
            raise 1 6 0 = 1
            pass 1 = 1
            close 1
            raiseOf 0 3 = -1
            """);
        script.run("the rest with reviewers keep them, and are approved still", THREE, """
            approve 1 = 0
            approve 2 = 0
            close 0
            raiseOf 1 3 = 1
            raiseOf 2 3 = 2
            raiseOf 1 4 = 1
            raiseOf 2 4 = 1
            load 0 = 0
            """);
        script.run("no other group is given reviewers by one of a group", Given.JOINED, """
            pack 1 = 3
            raise 3 2 7 = 3
            trust 2 7 = 5
            close 0
            raiseOf 3 3 = -1
            """);
        script.run("no other group is given reviewers by one alone", Given.packs(2, 5), """
            raise 0 6 7 = 0
            raise 1 6 0 = 1
            trust 2 7 = 5
            close 1
            raiseOf 0 3 = -1
            """);
    }
}
