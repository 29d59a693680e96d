public final class Promise11PassTest {

    /** Two packages that need each other at the same version, and a raise of each. */
    private static final String SLEEPERS = Given.packs(2, 5)
            + "need 0 1 0 0 = 1; raise 0 6 0 = 0; raise 1 6 0 = 1;";

    private static final String TO_900 = Script.each(1, 9, "pass 100 = @00");

    public static void main(String[] args) {
        Script script = new Script("promise 11: pass");
        days(script);
        ages(script);
        partners(script);
        order(script);
        reviewers(script);
        script.end();
    }

    private static void days(Script script) {
        script.run("the least days", "pass 1 = 1; day = 1; pass 1 = 2");
        script.run("the greatest days", "pass 100 = 100; day = 100; pass 100 = 200");
        script.refused("no days below the least", SLEEPERS, "pass 0 = IAE", "pass -1 = IAE",
                "pass -2147483648 = IAE");
        script.refused("no days above the greatest", SLEEPERS, "pass 101 = IAE", "pass 1000 = IAE",
                "pass 2147483647 = IAE");
        script.run("to the greatest day at once", TO_900, "pass 100 = 1000; day = 1000");
        script.run("to the greatest day by one", TO_900, "pass 99 = 999; pass 1 = 1000; day = 1000");
        script.refused("not one day above the greatest", TO_900 + "pass 1 = 901", "pass 100 = ISE");
        script.refused("not from the greatest day but one above the greatest", TO_900 + "pass 99 = 999",
                "pass 2 = ISE", "pass 100 = ISE");
        script.refused("not from the greatest day on", TO_900 + "pass 100 = 1000", "pass 1 = ISE", "pass 2 = ISE",
                "pass 100 = ISE");
        script.refused("days out of range come first, on the greatest day", TO_900 + "pass 100 = 1000",
                "pass 0 = IAE",
                "pass -1 = IAE", "pass 101 = IAE", "pass 2147483647 = IAE", "pass -2147483648 = IAE");
        script.refused("no day passes of those that are refused", TO_900 + """
            pack 5 = 0
            pack 5 = 1
            need 0 1 0 0 = 1
            pass 99 = 999
            patience 1 = 7
            raise 0 6 0 = 0
            raise 1 6 0 = 1
            """, "pass 2 = ISE", "pass 0 = IAE", "pass 101 = IAE");
        script.run("groups are joined on the greatest day as on others", TO_900, """
            pass 99 = 999
            pack 5 = 0
            pack 5 = 1
            need 0 1 0 0 = 1
            patience 1 = 7
            raise 0 6 0 = 0
            raise 1 6 0 = 1
            raiseOf 0 6 = 1
            pass 1 = 1000
            raiseOf 0 6 = 2
            """);
        script.run("with forty raises, ten of them open", Given.packs(12, 1), "need 0 1 0 0 = 1; need 9 2 0 0 = 2;",
                Given.closed(30), Script.each(0, 9, "raise @ 2 0 = 3@"), """
                pass 7 = 7
                raiseOf 30 6 = 2
                raiseOf 31 5 = 30
                raiseOf 32 5 = 32
                raiseOf 32 6 = 2
                raiseOf 39 5 = 32
                raiseOf 38 6 = 1
                """);
        script.run("the fortieth raise, which does not go, with a lower one, which does", Given.FORTY, """
            need 9 2 0 9 = 1
            fails 39 = 1
            fails 32 = 0
            pass 6 = 6
            raiseOf 39 6 = 1
            pass 1 = 7
            raiseOf 39 5 = 32
            raiseOf 32 6 = 2
            """);
        script.run("a lower raise, which does not go, with the fortieth, which does", Given.FORTY, """
            need 2 9 0 9 = 1
            fails 32 = 1
            fails 39 = 0
            pass 7 = 7
            raiseOf 39 5 = 32
            raiseOf 32 6 = 2
            """);
        script.run("with forty raises, none of them open", "pack 1 = 0", Given.closed(40), "pass 100 = 100; pass 1 = 101");
        script.run("nothing is there to be joined", "pass 100 = 100; pack 1 = 0; pass 100 = 200");
        script.run("several days are days one by one", Given.packs(3, 5), """
            need 0 1 0 0 = 1
            need 1 2 0 0 = 2
            patience 2 = 7
            raise 0 6 0 = 0
            raise 1 6 0 = 1
            raise 2 6 0 = 2
            pass 3 = 3
            raiseOf 0 6 = 3
            """);
    }

    private static void ages(Script script) {
        script.run("one day younger than the patience: not joined", SLEEPERS,
                "pass 6 = 6; raiseOf 0 6 = 1; raiseOf 1 5 = 1");
        script.run("as many days old as the patience: joined", SLEEPERS,
                "pass 7 = 7; raiseOf 0 6 = 2; raiseOf 1 5 = 0");
        script.run("older than the patience: joined", SLEEPERS,
                "close 1; pass 50 = 50; raise 1 6 0 = 2; pass 1 = 51; raiseOf 2 5 = 0");
        script.run("the other one may be as young as can be", SLEEPERS,
                "close 1; pass 6 = 6; raise 1 6 0 = 2; raiseOf 2 6 = 1; pass 1 = 7; raiseOf 2 5 = 0");
        script.run("by the day on which it was made, not by the day 0", "pass 20 = 20;", SLEEPERS,
                "pass 6 = 26; raiseOf 0 6 = 1; pass 1 = 27; raiseOf 0 6 = 2");
        script.run("the age of a group is by its oldest raise", Given.packs(3, 5), """
            need 0 1 0 0 = 1
            need 0 2 0 0 = 2
            patience 5 = 7
            raise 0 6 0 = 0
            pass 4 = 4
            raise 1 6 0 = 1
            pass 1 = 5
            raiseOf 0 6 = 2
            fails 0 = 1
            raise 2 6 0 = 2
            pass 1 = 6
            raiseOf 0 6 = 3
            """);
        script.run("a group that goes is left alone, however old", Given.packs(2, 5), """
            raise 0 6 0 = 0
            raise 1 6 0 = 1
            pass 100 = 100
            raiseOf 0 6 = 1
            raiseOf 1 6 = 1
            """);
    }

    private static void partners(Script script) {
        script.run("with none, if there is no other one", Given.packs(2, 5),
                "need 0 1 0 0 = 1; raise 0 6 0 = 0; pass 100 = 100; raiseOf 0 6 = 1; raiseOf 0 5 = 0; fails 0 = 1");
        script.run("with a lower group", Given.packs(2, 5), """
            need 0 1 0 9 = 1
            raise 1 6 0 = 0
            raise 0 6 0 = 1
            fails 0 = 0
            fails 1 = 1
            pass 7 = 7
            raiseOf 1 5 = 0
            """);
        script.run("with one by which one need less fails", Given.packs(3, 5), """
            need 0 1 0 0 = 1
            need 0 2 0 0 = 2
            raise 0 6 0 = 0
            raise 1 6 0 = 1
            fails 0 = 2
            pass 7 = 7
            raiseOf 0 6 = 2
            fails 0 = 1
            """);
        script.run("not with one by which as many fail", Given.packs(3, 5), """
            need 0 1 0 0 = 1
            raise 0 6 0 = 0
            raise 2 6 0 = 1
            pass 7 = 7
            raiseOf 0 6 = 1
            fails 0 = 1
            """);
        script.run("not with one by which as many fail, though others", Given.packs(3, 5), """
            need 0 1 0 0 = 1
            need 1 2 -9 0 = 2
            need 2 1 -9 0 = 3
            raise 0 6 0 = 0
            pass 6 = 6
            raise 1 6 0 = 1
            fails 0 = 1
            fails 1 = 2
            pass 1 = 7
            raiseOf 0 6 = 1
            """);
        script.run("not with one by which more fail", Given.packs(3, 5), """
            need 0 1 0 0 = 1
            need 2 1 0 0 = 2
            raise 0 6 0 = 0
            raise 2 6 0 = 1
            pass 7 = 7
            raiseOf 0 6 = 1
            raiseOf 1 6 = 1
            """);
        script.run("with the lowest of those by which it goes, not with a lower one by which it does not",
                Given.packs(3, 5), """
            need 0 1 0 0 = 1
            patience 1 = 7
            raise 2 6 0 = 0
            raise 0 6 0 = 1
            raise 1 6 0 = 2
            pass 1 = 1
            raiseOf 0 6 = 1
            raiseOf 1 6 = 2
            raiseOf 2 5 = 1
            fails 1 = 0
            """);
        script.run("one by which the fewest fail, if it goes by none; of several the lowest", Given.packs(4, 5), """
            need 0 1 0 0 = 1
            need 0 2 0 0 = 2
            need 0 3 0 0 = 3
            need 0 3 0 1 = 4
            need 1 2 -9 9 = 5
            patience 1 = 7
            raise 0 6 0 = 0
            pass 1 = 1
            raise 1 6 0 = 1
            raise 2 6 0 = 2
            raise 3 7 0 = 3
            raise 2 7 0 = ISE
            patience 5 = 1
            raiseOf 0 6 = 1
            fails 0 = 4
            pass 4 = 5
            raiseOf 0 6 = 2
            raiseOf 1 5 = 0
            raiseOf 2 5 = 2
            raiseOf 3 5 = 3
            fails 0 = 3
            """);
        script.run("the one by which fewer fail goes before a lower one", Given.packs(4, 5), """
            need 0 1 0 0 = 1
            need 0 2 0 0 = 2
            need 0 2 0 1 = 3
            need 0 3 0 0 = 4
            patience 3 = 7
            raise 0 6 0 = 0
            pass 2 = 2
            raise 1 6 0 = 1
            raise 2 6 0 = 2
            fails 0 = 4
            pass 1 = 3
            raiseOf 0 6 = 2
            raiseOf 2 5 = 0
            raiseOf 1 5 = 1
            fails 0 = 2
            """);
        script.run("with none, if by none fewer fail than by itself", Given.packs(3, 5), """
            need 0 1 0 0 = 1
            patience 1 = 7
            raise 0 6 0 = 0
            raise 2 6 0 = 1
            pass 9 = 9
            raiseOf 0 6 = 1
            raise 1 7 0 = 2
            pass 1 = 10
            raiseOf 0 6 = 1
            raiseOf 2 6 = 1
            """);
    }

    private static void order(Script script) {
        script.run("a group that another one was joined with is looked at no more on that day", Given.packs(3, 5), """
            need 0 1 0 0 = 1
            need 0 1 0 1 = 2
            need 1 2 0 0 = 3
            patience 2 = 7
            raise 0 6 0 = 0
            raise 1 6 0 = 1
            pass 1 = 1
            raise 2 6 0 = 2
            fails 0 = 2
            fails 1 = 2
            fails 2 = 1
            pass 1 = 2
            raiseOf 0 6 = 2     # joined with 1, which would go with 2
            raiseOf 1 5 = 0
            raiseOf 2 6 = 1
            fails 1 = 1
            pass 1 = 3
            raiseOf 0 6 = 3
            fails 2 = 0
            """);
        script.run("each day begins anew: what was joined on one is looked at on the next", Given.packs(3, 5), """
            need 0 1 0 0 = 1
            need 0 1 0 1 = 2
            need 1 2 0 0 = 3
            patience 2 = 7
            raise 0 6 0 = 0
            raise 1 6 0 = 1
            pass 1 = 1
            raise 2 6 0 = 2
            pass 2 = 3
            raiseOf 0 6 = 3
            """);
        script.run("a group that is joined itself may be joined by later ones on that day", Given.packs(3, 5), """
            need 0 1 0 0 = 1
            need 0 1 0 1 = 2
            need 1 2 0 0 = 3
            patience 1 = 7
            raise 0 6 0 = 0
            raise 1 6 0 = 1
            raise 2 6 0 = 2
            pass 1 = 1
            raiseOf 0 6 = 3
            raiseOf 2 5 = 0
            fails 0 = 0
            """);
        script.run("looked at by rising lowest raises, as things are then", Given.packs(3, 5), """
            need 0 1 0 0 = 1
            need 2 0 -1 9 = 2
            need 2 1 -1 9 = 3
            patience 1 = 7
            raise 0 6 0 = 0
            raise 1 6 0 = 1
            raise 2 7 0 = 2
            fails 2 = 2
            pass 1 = 1
            raiseOf 0 6 = 3
            raiseOf 2 5 = 0
            """);
    }

    private static void reviewers(Script script) {
        script.run("joined raises of one reviewer: the higher one goes to another, and is not approved",
                Given.packs(8, 1), """
            need 0 6 0 0 = 1
            patience 1 = 7
            raise 0 2 0 = 0
            raise 1 2 0 = 1
            raise 2 2 0 = 2
            raise 3 2 0 = 3
            raise 4 2 0 = 4
            raise 5 2 0 = 5
            raise 6 2 0 = 6
            raiseOf 6 3 = 0
            close 3
            approve 0 = 0
            approve 6 = 0
            pass 1 = 1
            raiseOf 6 5 = 0
            raiseOf 0 3 = 0
            raiseOf 0 4 = 1
            raiseOf 6 3 = 3
            raiseOf 6 4 = 0
            canLand 0 = 0
            approve 6 = 0
            canLand 0 = 1
            """);
        script.run("of several with as many, the lowest", Given.packs(8, 1), """
            need 0 6 0 0 = 1
            patience 1 = 7
            """, Script.each(0, 6, "raise @ 2 0 = @"), """
            raiseOf 6 3 = 0
            pass 1 = 1
            raiseOf 0 6 = 2
            raiseOf 6 3 = 1
            load 0 = 1
            load 1 = 2
            """);
        script.run("no other group is given reviewers", Given.packs(3, 5), """
            need 0 1 0 0 = 1
            raise 2 6 7 = 0
            raise 0 6 0 = 1
            raise 1 6 0 = 2
            trust 5 7 = 5
            pass 7 = 7
            raiseOf 1 6 = 2
            raiseOf 0 3 = -1
            """);
        script.run("those who have different ones keep them, and are approved still", SLEEPERS, """
            approve 0 = 0
            approve 1 = 0
            pass 7 = 7
            raiseOf 0 6 = 2
            raiseOf 0 3 = 0
            raiseOf 1 3 = 1
            raiseOf 0 4 = 1
            raiseOf 1 4 = 1
            canLand 0 = 1
            """);
        script.run("of three of one reviewer the lowest keeps him, the others have none and are not approved",
                Given.packs(3, 5), """
            need 0 1 0 0 = 1
            need 0 2 0 0 = 2
            trust 4 9 = 5
            raise 0 6 9 = 0
            raise 1 6 9 = 1
            raise 2 6 9 = 2
            approve 0 = 0
            approve 1 = 0
            approve 2 = 0
            load 4 = 3
            pass 7 = 7
            raiseOf 0 6 = 3
            raiseOf 0 3 = 4
            raiseOf 0 4 = 1
            raiseOf 1 3 = -1
            raiseOf 1 4 = 0
            raiseOf 2 3 = -1
            raiseOf 2 4 = 0
            load 4 = 1
            """);
        script.run("another one must have trust enough now, who keeps his raise need not", Given.packs(2, 5), """
            need 0 1 0 0 = 1
            trust 4 9 = 5
            raise 0 6 9 = 0
            raise 1 6 6 = 1
            raiseOf 1 3 = 4
            trust 0 6 = 5
            trust 1 7 = 5
            trust 4 0 = 9
            pass 7 = 7
            raiseOf 0 3 = 4
            raiseOf 1 3 = 0
            """);
        script.run("a raise without a reviewer is given to one, when its group is joined", Given.packs(2, 5), """
            need 0 1 0 0 = 1
            patience 3 = 7
            raise 0 6 7 = 0
            raise 1 6 7 = 1
            trust 4 7 = 5
            raiseOf 0 3 = -1
            pass 2 = 2
            raiseOf 0 3 = -1
            pass 1 = 3
            raiseOf 0 6 = 2
            raiseOf 0 3 = 4
            raiseOf 1 3 = -1
            approve 0 = 0
            approve 1 = ISE
            canLand 0 = 0
            """);
        script.run("one who reviews a higher raise of the group may not have a lower one", Given.packs(2, 5), """
            need 0 1 0 0 = 1
            patience 1 = 7
            raise 0 6 7 = 0
            trust 2 7 = 5
            raise 1 6 7 = 1
            raiseOf 1 3 = 2
            approve 1 = 0
            pass 1 = 1
            raiseOf 0 6 = 2
            raiseOf 0 3 = -1
            raiseOf 1 3 = 2
            raiseOf 1 4 = 1
            """);
        script.run("all that he has count, whatever the places among those that are open", Given.packs(4, 1), """
            need 1 3 0 9 = 1
            raise 0 2 0 = 0
            raise 1 2 7 = 1
            close 0
            raise 2 2 0 = 2
            raise 3 2 0 = 3
            raiseOf 2 3 = 0
            raiseOf 3 3 = 1
            trust 0 7 = 5
            trust 2 7 = 5
            pass 7 = 7
            raiseOf 1 6 = 2
            raiseOf 1 3 = 2
            """);
        script.run("none who reviews another one of the group, whatever the places among those that are open",
                Given.packs(3, 1), """
            need 1 2 0 9 = 1
            raise 0 2 0 = 0
            raise 1 2 7 = 1
            close 0
            trust 4 7 = 5
            raise 2 2 7 = 2
            raiseOf 2 3 = 4
            pass 7 = 7
            raiseOf 1 6 = 2
            raiseOf 1 3 = -1
            raiseOf 2 3 = 4
            """);
        script.run("one who reviews the fortieth raise, the tenth that is open, may not have a lower one of its group",
                Given.packs(10, 1), Given.closed(30), "need 2 9 0 9 = 1;", Script.each(0, 1, "raise @ 2 0 = 3@"),
                "raise 2 2 7 = 32;", Script.each(3, 8, "raise @ 2 0 = 3@"), """
            trust 2 7 = 5
            raise 9 2 7 = 39
            raiseOf 39 3 = 2
            approve 39 = 0
            pass 7 = 7
            raiseOf 32 6 = 2
            raiseOf 32 3 = -1
            raiseOf 39 3 = 2
            raiseOf 39 4 = 1
            """);
        script.run("one who reviews a lower raise of the group has the fortieth no more", Given.packs(2, 1),
                Given.closed(38), """
            need 0 1 0 0 = 1
            trust 2 7 = 5
            raise 0 2 7 = 38
            raise 1 2 7 = 39
            approve 39 = 0
            load 2 = 2
            pass 7 = 7
            raiseOf 38 6 = 2
            raiseOf 38 3 = 2
            raiseOf 39 3 = -1
            raiseOf 39 4 = 0
            load 2 = 1
            """);
    }
}
