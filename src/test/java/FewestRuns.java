/** What both ways to the fewest are held to: FEWEST stands for the name of either. */
final class FewestRuns {

    private final Script script;
    private final String name;

    FewestRuns(Script script, String name) {
        this.script = script;
        this.name = name;
    }

    void runAll() {
        run("the fewest are those that are needed, whatever the groups",
            """
            pack 5 = 0
            pack 5 = 1
            pack 5 = 2
            need 0 1 0 0 = 1
            FEWEST 0 = IOOBE
            raise 0 6 0 = 0
            FEWEST 0 = -1
            raise 2 6 0 = 1
            FEWEST 0 = -1
            FEWEST 1 = 2
            raise 1 6 0 = 2
            FEWEST 0 = 5
            FEWEST 1 = 2
            FEWEST 2 = 5
            """);
        run("bits by places among those that are open",
            """
            pack 5 = 0
            pack 5 = 1
            pack 5 = 2
            need 0 1 0 0 = 1
            raise 2 6 0 = 0
            raise 0 6 0 = 1
            raise 1 6 0 = 2
            FEWEST 2 = 6
            close 0
            FEWEST 2 = 3
            FEWEST 1 = 3
            close 1
            FEWEST 2 = -1
            """);
        run("what is asked for asks for others, and no more than that is taken",
            """
            pack 5 = 0
            pack 5 = 1
            pack 5 = 2
            pack 5 = 3
            need 0 1 0 9 = 1
            need 1 2 -9 0 = 2
            need 3 0 -1 9 = 3
            need 3 2 -1 9 = 4
            raise 0 7 0 = 0
            raise 1 8 0 = 1
            raise 2 8 0 = 2
            raise 3 7 0 = 3
            FEWEST 0 = 3
            FEWEST 1 = 2
            FEWEST 2 = 6
            FEWEST 3 = 15
            close 2
            FEWEST 3 = -1
            FEWEST 0 = 3
            """);
        run("none, if what is asked for makes a need fail for good",
            """
            pack 5 = 0
            pack 5 = 1
            need 0 1 -1 9 = 1
            need 0 1 -9 1 = 2
            raise 0 7 0 = 0
            FEWEST 0 = -1
            raise 1 9 0 = 1
            FEWEST 0 = -1
            FEWEST 1 = -1
            close 1
            raise 1 8 0 = 2
            FEWEST 0 = 3
            FEWEST 2 = 3
            """);
        run("among ten that are open",
            Script.counted(11, 0, "pack 5"),
            """
            need 0 1 0 0 = 1
            need 1 2 0 0 = 2
            need 2 3 0 0 = 3
            need 3 4 0 0 = 4
            need 4 5 0 0 = 5
            need 5 6 0 0 = 6
            need 6 7 0 0 = 7
            need 7 8 0 0 = 8
            need 8 9 0 0 = 9
            raise 0 6 0 = 0
            raise 1 6 0 = 1
            raise 2 6 0 = 2
            raise 3 6 0 = 3
            raise 4 6 0 = 4
            raise 5 6 0 = 5
            raise 6 6 0 = 6
            raise 7 6 0 = 7
            raise 8 6 0 = 8
            raise 9 6 0 = 9
            FEWEST 0 = 1023
            FEWEST 9 = 1023
            FEWEST 5 = 1023
            close 9
            FEWEST 0 = -1
            raise 10 6 0 = 10
            FEWEST 10 = 512
            """);
        run("no such raise, or not open",
            """
            FEWEST 0 = IOOBE
            pack 5 = 0
            raise 0 6 0 = 0
            FEWEST 0 = 1
            FEWEST 1 = IOOBE
            FEWEST -1 = IOOBE
            FEWEST 2147483647 = IOOBE
            close 0
            FEWEST 0 = ISE
            """);
    }

    private void run(String about, String... parts) {
        script.run(about, String.join("\n", parts).replace("FEWEST", name));
    }
}
