public final class Promise15FailsTest {

    public static void main(String[] args) {
        Script script = new Script("promise 15: fails");
        counted(script);
        ends(script);
        OfARaise calls = new OfARaise(script, "fails @");
        calls.noSuchRaise();
        calls.notOpen();
        script.end();
    }

    private static void counted(Script script) {
        script.run("how many needs would fail with the raises of its group", Given.packs(3, 5), """
            need 0 1 0 0 = 1
            need 1 0 -1 0 = 2
            need 0 2 -1 1 = 3
            patience 2 = 7
            raise 0 6 0 = 0
            fails 0 = 2         # the third one holds just so
            raise 1 6 0 = 1
            fails 0 = 2
            fails 1 = 1
            raise 2 9 0 = 2
            fails 2 = 1
            pass 2 = 2
            fails 0 = 0
            fails 1 = 0
            fails 2 = 1
            """);
        script.run("none, if there are no needs", Given.packs(2, 5), "raise 0 99 0 = 0; fails 0 = 0");
        script.run("none, if all hold", Given.packs(2, 5), Script.each(1, 20, "need 0 1 -98 98 = @"),
                "raise 0 99 0 = 0; fails 0 = 0");
        script.run("one alone", Given.packs(2, 5), Script.each(1, 19, "need 0 1 -98 98 = @"),
                "need 0 1 0 0 = 20; raise 0 99 0 = 0; fails 0 = 1");
        script.run("all twenty", Given.packs(2, 5), Script.each(1, 20, "need 0 1 0 0 = @"),
                "raise 0 6 0 = 0; fails 0 = 20");
        script.run("the first one of twenty", Given.packs(2, 5), "need 0 1 0 0 = 1;",
                Script.each(2, 20, "need 0 1 -98 98 = @"),
                "raise 0 6 0 = 0; fails 0 = 1");
        script.run("of packages that it does not raise none fails", Given.packs(3, 5),
                "need 0 1 0 0 = 1; raise 2 9 0 = 0; fails 0 = 0");
        script.run("a need that is told later counts as well", Given.packs(2, 5),
                "raise 0 6 0 = 0; fails 0 = 0; need 0 1 0 0 = 1; fails 0 = 1");
        script.run("the raises of other groups do not count", Given.packs(2, 5),
                "need 0 1 0 0 = 1; raise 0 6 0 = 0; raise 1 6 0 = 1; fails 0 = 1; fails 1 = 1");
        script.run("of the fortieth", Given.packs(12, 1) + "need 9 11 0 0 = 1;" + Given.closed(30),
                Script.each(0, 9, "raise @ 2 0 = 3@"), "fails 39 = 1; fails 38 = 0");
    }

    private static void ends(Script script) {
        String need = Given.packs(2, 5) + "need 0 1 -1 2 = 1;";
        script.run("it holds at the least one", need, "raise 0 6 0 = 0; fails 0 = 0");
        script.run("it fails one below the least one", need, "raise 0 7 0 = 0; fails 0 = 1");
        script.run("it holds at the most", need, "raise 1 7 0 = 0; fails 0 = 0");
        script.run("it fails one above the most", need, "raise 1 8 0 = 0; fails 0 = 1");
        script.run("it holds between", need, "raise 1 6 0 = 0; fails 0 = 0");
        script.run("the widest gap, of a need of one number", "pack 1 = 0; pack 1 = 1",
                "need 0 1 -98 98 = 1; need 0 1 -98 97 = 2; need 1 0 -97 98 = 3; raise 1 99 0 = 0; fails 0 = 2");
    }
}
