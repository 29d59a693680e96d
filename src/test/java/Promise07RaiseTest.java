public final class Promise07RaiseTest {

    private static final String TWO = "pack 5 = 0; pack 9 = 1;";
    private static final String TEN_OPEN = Given.packs(12, 5) + Script.each(0, 9, "raise @ 7 0 = @");
    private static final String FORTY_CLOSED = Given.packs(2, 1) + Given.closed(40);

    public static void main(String[] args) {
        Script script = new Script("promise 7: raise");
        numbers(script);
        packages(script);
        versions(script);
        risks(script);
        oneOpen(script);
        tenOpen(script);
        forty(script);
        reviewers(script);
        script.end();
    }

    private static void numbers(Script script) {
        script.run("numbers from 0, and what is told of a new one", TWO, """
            raise 1 10 3 = 0
            raise 0 99 9 = 1
            raiseOf 0 0 = 0
            raiseOf 0 1 = 1
            raiseOf 0 2 = 10
            raiseOf 0 3 = 0
            raiseOf 0 4 = 0
            raiseOf 0 5 = 0
            raiseOf 0 6 = 1
            raiseOf 1 3 = -1
            raiseOf 1 5 = 1
            version 1 = 9
            """);
        script.run("at first in a group of its own, whatever it needs", TWO,
                "need 0 1 4 4 = 1; raise 0 6 0 = 0; raise 1 10 0 = 1; raiseOf 0 6 = 1; raiseOf 1 6 = 1;"
                + "raiseOf 1 5 = 1");
        script.run("a refused one takes no number", TWO, """
            raise 2 6 0 = IOOBE
            raise 0 5 0 = IAE
            raise 0 6 10 = IAE
            raise 0 6 0 = 0
            raise 0 7 0 = ISE
            raise 1 10 0 = 1
            """);
        script.run("its age is counted from the day on which it is made", Given.packs(2, 5), """
            need 0 1 0 0 = 1
            patience 2 = 7
            raise 1 6 0 = 0
            pass 3 = 3
            raise 0 6 0 = 1
            raiseOf 0 6 = 1
            pass 1 = 4
            raiseOf 1 5 = 0
            """);
        script.run("one of day 1000", "pack 1 = 0;", Script.each(1, 10, "pass 100 = @00"),
                "raise 0 2 0 = 0; approve 0 = 0; land 0 1 = 1; version 0 = 2");
    }

    private static void packages(Script script) {
        script.refused("no package is there yet", "", "raise 0 2 0 = IOOBE", "raise -1 2 0 = IOOBE");
        script.refused("no such package", TWO, "raise -1 10 0 = IOOBE", "raise 2 10 0 = IOOBE",
                "raise 12 10 0 = IOOBE", "raise -2147483648 10 0 = IOOBE", "raise 2147483647 10 0 = IOOBE");
        script.run("the first and the last of twelve", Given.packs(12, 5),
                "raise 0 6 0 = 0; raise 11 6 0 = 1; raiseOf 0 1 = 0; raiseOf 1 1 = 11");
        script.refused("none above the twelfth", Given.packs(12, 5), "raise 12 6 0 = IOOBE", "raise 13 6 0 = IOOBE");
        script.refused("no such package comes first, before a version or risk out of range", TWO,
                "raise 2 0 0 = IOOBE", "raise 2 100 0 = IOOBE", "raise -1 6 10 = IOOBE", "raise 2 6 -1 = IOOBE");
        script.refused("no such package comes first, where ten are open", Given.packs(11, 1)
                + Script.each(0, 9, "raise @ 2 0 = @"), "raise 11 2 0 = IOOBE", "raise -1 2 0 = IOOBE");
        script.refused("no such package comes first, where there are forty", FORTY_CLOSED,
                "raise 2 2 0 = IOOBE", "raise -1 2 0 = IOOBE");
    }

    private static void versions(Script script) {
        script.run("one greater than the version it has", TWO, "raise 0 6 0 = 0; raiseOf 0 2 = 6");
        script.run("the least version that may be", "pack 1 = 0; raise 0 2 0 = 0; raiseOf 0 2 = 2");
        script.run("the greatest version", TWO, "raise 0 99 0 = 0; raiseOf 0 2 = 99");
        script.run("the greatest version, one greater than that it has", "pack 98 = 0; raise 0 99 0 = 0");
        script.refused("no version that it has already", TWO, "raise 0 5 0 = IAE", "raise 1 9 0 = IAE");
        script.refused("no version below that it has", TWO, "raise 0 4 0 = IAE", "raise 0 1 0 = IAE",
                "raise 1 6 0 = IAE");
        script.refused("no version below the least", TWO, "raise 0 0 0 = IAE", "raise 0 -1 0 = IAE",
                "raise 0 -2147483648 0 = IAE");
        script.refused("no version above the greatest", TWO, "raise 0 100 0 = IAE", "raise 0 101 0 = IAE",
                "raise 0 2147483647 0 = IAE");
        script.refused("nothing is greater than the greatest", "pack 99 = 0", "raise 0 99 0 = IAE",
                "raise 0 100 0 = IAE",
                "raise 0 98 0 = IAE");
        script.refused("the one it has is that of the last raise that landed", """
            pack 5 = 0
            raise 0 8 0 = 0
            approve 0 = 0
            land 0 1 = 1
            """, "raise 0 6 0 = IAE", "raise 0 8 0 = IAE");
        script.run("and greater than that may be",
                "pack 5 = 0; raise 0 8 0 = 0; approve 0 = 0; land 0 1 = 1; raise 0 9 0 = 1");
        script.run("not that of one that failed or was closed",
                "pack 5 = 0; raise 0 8 0 = 0; approve 0 = 0; land 0 0 = 1; raise 0 8 0 = 1; close 1; raise 0 6 0 = 2");
    }

    private static void risks(Script script) {
        script.run("the least risk", TWO, "raise 0 6 0 = 0; raiseOf 0 3 = 0");
        script.run("the greatest risk", TWO, "raise 0 6 9 = 0; raiseOf 0 3 = -1");
        script.refused("no risk below the least", TWO, "raise 0 6 -1 = IAE", "raise 0 6 -2147483648 = IAE");
        script.refused("no risk above the greatest", TWO, "raise 0 6 10 = IAE", "raise 0 6 2147483647 = IAE");
    }

    private static void oneOpen(Script script) {
        String open = TWO + "raise 0 7 0 = 0";
        script.refused("of a package at most one is open", open, "raise 0 8 0 = ISE", "raise 0 7 0 = ISE",
                "raise 0 6 0 = ISE", "raise 0 99 9 = ISE");
        script.refused("an argument out of range comes first, where one is open", open, "raise 0 5 0 = IAE",
                "raise 0 4 0 = IAE", "raise 0 0 0 = IAE", "raise 0 100 0 = IAE", "raise 0 8 10 = IAE",
                "raise 0 8 -1 = IAE");
        script.refused("neither where it is one of a group", Given.JOINED, "raise 0 9 0 = ISE", "raise 1 9 0 = ISE",
                "raise 2 9 0 = ISE");
        script.run("of another package one may be", open, "; raise 1 10 0 = 1");
        script.run("again, when it is closed", open, "close 0; raise 0 6 0 = 1");
        script.run("again, when it has failed", open, "approve 0 = 0; land 0 0 = 1; raise 0 6 0 = 1");
        script.run("again, when it has landed", open, "approve 0 = 0; land 0 1 = 1; raise 0 8 0 = 1");
        script.run("not again, when its group was parted", Given.JOINED,
                "approve 0 = 0; approve 2 = 0; land 0 0 = 2; raise 0 9 0 = ISE; raise 1 9 0 = ISE");
    }

    private static void tenOpen(Script script) {
        script.run("ten are open", TEN_OPEN, "raiseOf 9 0 = 0; raiseOf 9 5 = 9; raiseOf 0 0 = 0");
        script.refused("no eleventh is open", TEN_OPEN, "raise 10 7 0 = ISE", "raise 11 99 9 = ISE",
                "raise 0 8 0 = ISE");
        script.refused("an argument out of range comes first, where ten are open", TEN_OPEN, "raise 10 5 0 = IAE",
                "raise 10 0 0 = IAE", "raise 10 100 0 = IAE", "raise 10 7 10 = IAE", "raise 10 7 -1 = IAE");
        script.run("another one, when one is closed", TEN_OPEN,
                "raise 10 7 0 = ISE; close 4; raise 10 7 0 = 10; raiseOf 10 5 = 10; raise 11 7 0 = ISE;"
                + "raise 4 7 0 = ISE");
        script.run("another one, when one has landed", TEN_OPEN,
                "approve 0 = 0; land 0 1 = 1; raise 10 7 0 = 10; raise 0 8 0 = ISE");
        script.run("another one, when one has failed", TEN_OPEN,
                "approve 9 = 0; land 9 0 = 1; raise 9 7 0 = 10; raise 10 7 0 = ISE");
        script.run("two more, when a group of two has landed", Given.JOINED, Script.each(3, 10, "pack 1 = @"),
                Script.each(3, 9, "raise @ 2 0 = @"), """
                raise 10 2 0 = ISE
                approve 0 = 0
                approve 2 = 0
                land 0 1 = 2
                raise 10 2 0 = 10
                raise 0 4 0 = 11
                raise 1 4 0 = ISE
                """);
        script.run("no more, when a group of two was parted", Given.JOINED, Script.each(3, 10, "pack 1 = @"),
                Script.each(3, 9, "raise @ 2 0 = @"), "approve 0 = 0; approve 2 = 0; land 0 0 = 2; raise 10 2 0 = ISE");
    }

    private static void forty(Script script) {
        script.run("the fortieth", "pack 1 = 0;", Given.closed(39),
                "raise 0 2 0 = 39; raiseOf 39 0 = 0; raiseOf 39 5 = 39");
        script.refused("no forty-first, though none is open", FORTY_CLOSED, "raise 0 2 0 = ISE",
                "raise 1 99 9 = ISE");
        script.refused("no forty-first, where ten are open", Given.FORTY, "raise 10 2 0 = ISE", "raise 0 3 0 = ISE");
        script.refused("an argument out of range comes first, where there are forty", FORTY_CLOSED,
                "raise 0 1 0 = IAE", "raise 0 0 0 = IAE", "raise 0 100 0 = IAE", "raise 0 2 10 = IAE",
                "raise 0 2 -1 = IAE");
        script.run("those that landed and failed count among the forty", Given.ENDED, "pack 1 = 1;",
                Script.each(3, 38, "raise 0 3 0 = @; close @"), "raise 0 3 0 = 39; raise 1 2 0 = ISE;"
                + "raiseOf 40 0 = IOOBE");
    }

    private static void reviewers(Script script) {
        script.run("given to the one with trust enough and the fewest, of several the lowest", Given.packs(9, 1), """
            trust 0 2 = 5
            trust 4 9 = 5
            raise 0 2 3 = 0
            raiseOf 0 3 = 1
            raise 1 2 3 = 1
            raiseOf 1 3 = 2
            raise 2 2 2 = 2
            raiseOf 2 3 = 0
            raise 3 2 9 = 3
            raiseOf 3 3 = 4
            raise 4 2 8 = 4
            raiseOf 4 3 = 4
            raise 5 2 3 = 5
            raiseOf 5 3 = 3
            raise 6 2 0 = 6
            raiseOf 6 3 = 5
            raise 7 2 0 = 7
            raiseOf 7 3 = 0
            raise 8 2 3 = 8
            raiseOf 8 3 = 1
            """);
        script.run("of six with as many, the lowest, and so on by turns", Given.packs(10, 1),
                Script.each(0, 5, "raise @ 2 0 = @; raiseOf @ 3 = @"),
                "raise 6 2 0 = 6; raiseOf 6 3 = 0; raise 7 2 0 = 7; raiseOf 7 3 = 1; load 0 = 2; load 5 = 1");
        script.run("the highest one, if none else may",
                "pack 1 = 0; trust 5 6 = 5; raise 0 2 6 = 0; raiseOf 0 3 = 5");
        script.run("to none, if nobody may", "pack 1 = 0; raise 0 2 6 = 0; raiseOf 0 3 = -1");
        script.run("the greatest risk that all may have at first", "pack 1 = 0; raise 0 2 5 = 0; raiseOf 0 3 = 0");
        script.run("raises that are closed count for nobody", Given.packs(3, 1),
                "raise 0 2 0 = 0; raise 1 2 0 = 1; raiseOf 1 3 = 1; close 0; raise 2 2 0 = 2; raiseOf 2 3 = 0");
        script.run("raises that landed count for nobody", Given.packs(2, 1),
                "raise 0 2 0 = 0; approve 0 = 0; land 0 1 = 1; raise 1 2 0 = 1; raiseOf 1 3 = 0");
        script.run("raises that failed count for nobody", Given.packs(2, 1),
                "raise 0 2 0 = 0; approve 0 = 0; land 0 0 = 1; raise 1 2 0 = 1; raiseOf 1 3 = 0");
        script.run("one reviewer may have all ten, if they are in ten groups", Given.packs(10, 1), "trust 4 9 = 5;",
                Script.each(0, 9, "raise @ 2 9 = @"), Script.each(0, 9, "raiseOf @ 3 = 4"), "load 4 = 10");
        script.run("no other raise is given anew", """
            pack 1 = 0
            pack 1 = 1
            raise 0 2 6 = 0
            trust 2 6 = 5
            raise 1 2 6 = 1
            raiseOf 0 3 = -1
            raiseOf 1 3 = 2
            """);
    }
}
