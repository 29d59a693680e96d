/** What both ways to the fewest are held to: FEWEST stands for the name of either. */
final class FewestRuns {

    /** Each of ten packages needs the next one at its own version, and so the first one does all. */
    private static final String CHAIN = Given.packs(11, 5) + chain() + Script.each(0, 9, "raise @ 6 0 = @");

    private final Script script;
    private final String name;

    FewestRuns(Script script, String name) {
        this.script = script;
        this.name = name;
    }

    void runAll() {
        OfARaise calls = new OfARaise(script, name + " @");
        calls.noSuchRaise();
        calls.notOpen();
        sets();
        none();
        places();
    }

    private static String chain() {
        StringBuilder lines = new StringBuilder();
        for (int i = 0; i < 9; i++) {
            lines.append("need " + i + " " + (i + 1) + " 0 0 = " + (i + 1) + ";");
        }
        return lines.toString();
    }

    private void sets() {
        run("itself alone, where there are no needs", "pack 5 = 0; raise 0 6 0 = 0; FEWEST 0 = 1");
        run("itself alone, among ten", Given.packs(10, 5), Script.each(0, 9, "raise @ 6 0 = @"),
                "FEWEST 0 = 1; FEWEST 4 = 16; FEWEST 9 = 512");
        run("itself alone, if twenty needs hold", Given.packs(2, 5), Script.each(1, 20, "need 0 1 -1 0 = @"),
                "raise 0 6 0 = 0; FEWEST 0 = 1");
        run("two, if the last one of twenty needs asks for it", Given.packs(2, 5), Script.each(1, 19, "need 0 1 -1 0 = @"),
                "need 1 0 -9 0 = 20; raise 0 6 0 = 0; FEWEST 0 = -1; raise 1 6 0 = 1; FEWEST 0 = 3; FEWEST 1 = 3");
        run("itself alone, if its needs hold just so", Given.packs(3, 5),
                "need 0 1 -1 0 = 1; need 2 0 0 1 = 2; raise 0 6 0 = 0; raise 1 6 0 = 1; raise 2 6 0 = 2; FEWEST 0 = 1");
        run("two, whatever the groups", Given.packs(3, 5), """
            need 0 1 0 0 = 1
            raise 0 6 0 = 0
            raise 2 6 0 = 1
            FEWEST 1 = 2
            raise 1 6 0 = 2
            FEWEST 0 = 5
            FEWEST 1 = 2
            FEWEST 2 = 5
            """);
        run("fewer than its group", Given.packs(2, 5), """
            need 0 1 0 9 = 1
            raise 0 6 0 = 0
            raise 1 6 0 = 1
            pass 7 = 7
            raiseOf 1 6 = 2
            FEWEST 0 = 3
            FEWEST 1 = 2
            """);
        run("what is asked for asks for others, and no more than that is taken", Given.packs(4, 5), """
            need 0 1 0 9 = 1
            need 1 2 -9 0 = 2
            need 3 0 -1 9 = 3
            need 3 2 -1 9 = 4
            raise 0 7 0 = 0
            raise 1 8 0 = 1
            raise 2 8 0 = 2
            raise 3 7 0 = 3
            FEWEST 0 = 3
            FEWEST 1 = 2
            FEWEST 2 = 6
            FEWEST 3 = 15
            close 2
            FEWEST 3 = -1
            FEWEST 0 = 3
            """);
        run("all ten", CHAIN, "FEWEST 0 = 1023; FEWEST 5 = 1023; FEWEST 9 = 1023");
        run("all ten, joined by a day or not", CHAIN, "patience 1 = 7; pass 1 = 1; FEWEST 0 = 1023; FEWEST 9 = 1023");
        run("nothing of it is approved, and all is frozen", Given.packs(2, 5),
                "need 0 1 0 0 = 1; freeze 4095 0 1000 = 1; raise 0 6 9 = 0; raise 1 6 9 = 1; FEWEST 0 = 3");
    }

    private void none() {
        run("none, if what is asked for is not raised", Given.packs(2, 5),
                "need 0 1 0 0 = 1; raise 0 6 0 = 0; FEWEST 0 = -1");
        run("none, if others alone are raised", Given.packs(3, 5),
                "need 0 1 0 0 = 1; raise 0 6 0 = 0; raise 2 6 0 = 1; FEWEST 0 = -1");
        run("none, if what is asked for is raised too little", Given.packs(2, 5),
                "need 0 1 -1 9 = 1; raise 0 8 0 = 0; raise 1 6 0 = 1; FEWEST 0 = -1; close 1; raise 1 7 0 = 2;"
                + "FEWEST 0 = 3");
        run("none, if what is asked for is raised too much", Given.packs(2, 5),
                "need 0 1 0 1 = 1; raise 0 6 0 = 0; raise 1 8 0 = 1; FEWEST 0 = -1; close 1; raise 1 7 0 = 2;"
                + "FEWEST 0 = 3");
        run("none, if what is asked for asks for what is not raised", Given.packs(3, 5),
                "need 0 1 0 9 = 1; need 1 2 0 9 = 2; raise 0 6 0 = 0; raise 1 6 0 = 1; FEWEST 0 = -1; FEWEST 1 = -1");
        run("none, if one of ten is missing", CHAIN, "close 9; FEWEST 0 = -1; FEWEST 8 = -1");
        run("none any more, when what was asked for has failed", Given.packs(2, 5),
                "need 0 1 0 9 = 1; raise 0 6 0 = 0; raise 1 6 0 = 1; FEWEST 0 = 3; approve 1 = 0;"
                + "land 1 0 = 1; FEWEST 0 = -1");
        run("itself alone, when what was asked for has landed", Given.packs(2, 5),
                "need 0 1 0 9 = 1; raise 0 6 0 = 0; raise 1 6 0 = 1; FEWEST 0 = 3; approve 1 = 0;"
                + "land 1 1 = 1; FEWEST 0 = 1");
    }

    private void places() {
        run("bits by places among those that are open", Given.packs(3, 5), """
            need 0 1 0 0 = 1
            raise 2 6 0 = 0
            raise 0 6 0 = 1
            raise 1 6 0 = 2
            FEWEST 2 = 6
            close 0
            FEWEST 2 = 3
            FEWEST 1 = 3
            close 1
            FEWEST 2 = -1
            """);
        run("the lowest place, whatever its number", Given.packs(1, 1), Given.closed(39),
                "raise 0 2 0 = 39; FEWEST 39 = 1");
        run("the highest place, of the fortieth", Given.FORTY, "FEWEST 39 = 512; FEWEST 30 = 1");
        run("a new one has the highest place", CHAIN, "close 0; close 9; raise 10 6 0 = 10; FEWEST 10 = 256");
    }

    private void run(String about, String... parts) {
        script.run(about, String.join("\n", parts).replace("FEWEST", name));
    }
}
