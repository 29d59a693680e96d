public final class Promise08ApproveTest {

    public static void main(String[] args) {
        Script script = new Script("promise 8: approve");
        script.run("it was not approved, and then it was", """
            pack 1 = 0
            raise 0 2 0 = 0
            raiseOf 0 4 = 0
            approve 0 = 0
            raiseOf 0 4 = 1
            approve 0 = 1
            raiseOf 0 4 = 1
            approve 0 = 1
            """);
        script.run("one raise alone", Given.packs(2, 1),
                "raise 0 2 0 = 0; raise 1 2 0 = 1; approve 1 = 0; raiseOf 0 4 = 0; raiseOf 1 4 = 1; approve 0 = 0");
        script.run("one of a group alone", Given.JOINED,
                "approve 2 = 0; raiseOf 0 4 = 0; raiseOf 2 4 = 1; approve 0 = 0");
        script.run("the fortieth raise", Given.FORTY,
                "approve 39 = 0; raiseOf 39 4 = 1; raiseOf 38 4 = 0; approve 30 = 0");
        OfARaise calls = new OfARaise(script, "approve @");
        calls.noSuchRaise();
        calls.notOpen();
        withoutReviewer(script);
        again(script);
        script.end();
    }

    private static void withoutReviewer(Script script) {
        script.refused("not without a reviewer", "pack 1 = 0; raise 0 2 6 = 0; raiseOf 0 3 = -1", "approve 0 = ISE");
        script.refused("not without a reviewer, though somebody might be it by now",
                "pack 1 = 0; raise 0 2 6 = 0; trust 2 6 = 5", "approve 0 = ISE");
        script.refused("not one of a group without a reviewer", Given.packs(2, 5) + """
            need 0 1 0 0 = 1
            patience 1 = 7
            trust 3 8 = 5
            raise 0 6 8 = 0
            raise 1 6 8 = 1
            approve 0 = 0
            approve 1 = 0
            pass 1 = 1
            raiseOf 1 3 = -1
            """, "approve 1 = ISE");
        script.run("one whose reviewer has less trust by now has a reviewer still",
                "pack 1 = 0; raise 0 2 5 = 0; trust 0 0 = 5; approve 0 = 0");
        script.run("the lowest reviewer is one", "pack 1 = 0; raise 0 2 0 = 0; raiseOf 0 3 = 0; approve 0 = 0");
        script.run("it is not without one any more, when it is given to one", Given.packs(2, 5), """
            need 0 1 0 0 = 1
            patience 1 = 7
            raise 0 6 7 = 0
            raise 1 6 0 = 1
            trust 4 7 = 5
            approve 0 = ISE
            pass 1 = 1
            raiseOf 0 3 = 4
            raiseOf 0 4 = 0
            approve 0 = 0
            """);
    }

    private static void again(Script script) {
        script.run("it was not, when it has failed with others", Given.JOINED, """
            approve 0 = 0
            approve 2 = 0
            land 0 0 = 2
            approve 0 = 0
            approve 0 = 1
            approve 2 = 0
            """);
        script.run("days change nothing of it",
                "pack 1 = 0; raise 0 2 0 = 0; approve 0 = 0; pass 100 = 100; approve 0 = 1");
    }
}
