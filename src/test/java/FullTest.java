/** As much of all as there may be at a time: nothing but the document's own exceptions may come of it. */
public final class FullTest {

    private static final String[] OF_A_RAISE = {"fails", "canLand", "fewest", "fewestAnew"};

    public static void main(String[] args) {
        Script script = new Script("all full");
        script.run("all that can be told, and all asked of it",
            Given.packs(12, 5),
            ring(),
            Script.each(13, 20, "need 11 10 -98 98 = @"),
            Script.each(1, 10, "freeze 4095 500 1000 = @"),
            Script.each(0, 29, "raise 0 6 0 = @; close @"),
            """
            patience 1 = 7
            raise 0 6 0 = 30
            raise 11 6 0 = 31
            raise 1 6 0 = 32
            raise 10 6 0 = 33
            raise 2 6 0 = 34
            raise 9 6 0 = 35
            raise 3 6 0 = 36
            raise 8 6 0 = 37
            raise 4 6 0 = 38
            raise 7 6 0 = 39
            raise 5 6 0 = ISE
            pack 5 = ISE
            need 0 1 0 0 = ISE
            freeze 1 0 0 = ISE
            fails 30 = 2
            fails 39 = 2
            fewest 30 = -1          # 5 and 6 have no raises
            fewestAnew 30 = -1
            pass 100 = 100
            fails 30 = 2
            raiseOf 30 6 = 1        # with a neighbour two needs fail still
            raiseOf 33 5 = 33
            told 39 2 = '6'
            told 39 3 = 0
            approve 39 = 0
            canLand 39 = 0
            land 39 1 = ISE
            close 39
            raise 7 6 0 = ISE
            load 5 = 1
            """);
        script.run("all needs hold and no freeze is of today: a group of six lands",
            Given.packs(12, 5),
            """
            need 0 1 0 0 = 1
            need 1 2 0 0 = 2
            need 2 3 0 0 = 3
            need 3 4 0 0 = 4
            need 4 5 0 0 = 5
            """,
            Script.each(6, 20, "need 5 11 -1 0 = @"),
            Script.each(1, 10, "freeze 4095 500 1000 = @"),
            """
            patience 1 = 7
            raise 0 6 0 = 0
            raise 1 6 0 = 1
            raise 2 6 0 = 2
            raise 3 6 0 = 3
            raise 4 6 0 = 4
            raise 5 6 0 = 5
            raise 6 6 0 = 6
            raise 7 6 0 = 7
            raise 8 6 0 = 8
            raise 9 6 0 = 9
            fewest 0 = 63
            fewestAnew 0 = 63
            fewest 9 = 512
            fewestAnew 9 = 512
            approve 9 = 0
            canLand 9 = 1
            pass 9 = 9
            raiseOf 5 6 = 6
            approve 0 = 0
            approve 1 = 0
            approve 2 = 0
            approve 3 = 0
            approve 4 = 0
            canLand 0 = 0
            approve 5 = 0
            canLand 0 = 1
            land 3 1 = 6
            version 0 = 6
            version 5 = 6
            version 6 = 5
            raiseOf 6 5 = 6
            fewest 6 = 1
            fewest 9 = 8
            """);
        script.run("a group of ten, six of whom have reviewers",
            Given.packs(10, 5),
            """
            need 1 0 0 0 = 1
            need 2 0 0 0 = 2
            need 3 0 0 0 = 3
            need 4 0 0 0 = 4
            need 5 0 0 0 = 5
            need 6 0 0 0 = 6
            need 7 0 0 0 = 7
            need 8 0 0 0 = 8
            need 9 0 0 0 = 9
            patience 1 = 7
            raise 0 6 0 = 0
            raise 1 6 0 = 1
            raise 2 6 0 = 2
            raise 3 6 0 = 3
            raise 4 6 0 = 4
            raise 5 6 0 = 5
            raise 6 6 0 = 6
            raise 7 6 0 = 7
            raise 8 6 0 = 8
            raise 9 6 0 = 9
            fewest 9 = 1023
            fewestAnew 9 = 1023
            fails 0 = 9
            pass 1 = 1
            raiseOf 0 6 = 2         # a day, a raise
            pass 6 = 7
            raiseOf 0 6 = 8
            fails 0 = 2
            pass 1 = 8
            raiseOf 0 6 = 10        # and the last one joins by itself
            raiseOf 9 5 = 0
            fails 9 = 0
            told 9 11 = '+'
            told 9 12 = 0
            raiseOf 5 3 = 5
            raiseOf 6 3 = -1
            raiseOf 7 3 = -1
            raiseOf 8 3 = -1
            raiseOf 9 3 = -1
            canLand 0 = 0
            close 3
            raiseOf 6 3 = 3
            raiseOf 7 3 = -1
            close 0
            raiseOf 7 3 = 0
            raiseOf 9 5 = 1
            raiseOf 9 6 = 8
            fails 9 = 8
            """);
        script.run("numbers far off",
            "pack 5 = 0; raise 0 6 0 = 0",
            ofARaise(Integer.MIN_VALUE), ofARaise(-1), ofARaise(1), ofARaise(40), ofARaise(Integer.MAX_VALUE));
        script.end();
    }

    /** Each package needs the next one at its own version, and the last one the first. */
    private static String ring() {
        StringBuilder lines = new StringBuilder();
        for (int i = 0; i < 12; i++) {
            lines.append("need " + i + " " + (i + 1) % 12 + " 0 0 = " + (i + 1) + ";");
        }
        return lines.toString();
    }

    private static String ofARaise(int raise) {
        StringBuilder lines = new StringBuilder();
        for (String name : OF_A_RAISE) {
            lines.append(name + " " + raise + " = IOOBE;");
        }
        return lines + "raiseOf " + raise + " 0 = IOOBE; told " + raise + " 0 = IOOBE; land " + raise
                + " 1 = IOOBE; approve " + raise + " = IOOBE; close " + raise + " = IOOBE;";
    }
}
