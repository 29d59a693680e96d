public final class Promise07RaiseTest {

    public static void main(String[] args) {
        Script script = new Script("promise 7: raise");
        script.run("numbers from 0, and what is told of a new one",
            """
            pack 5 = 0
            pack 9 = 1
            raise 1 10 3 = 0
            raise 0 99 9 = 1
            raiseOf 0 0 = 0
            raiseOf 0 1 = 1
            raiseOf 0 2 = 10
            raiseOf 0 3 = 0
            raiseOf 0 4 = 0
            raiseOf 0 5 = 0
            raiseOf 0 6 = 1
            raiseOf 1 3 = -1
            raiseOf 1 5 = 1
            version 1 = 9
            """);
        script.run("no such package",
            """
            raise 0 2 0 = IOOBE
            pack 1 = 0
            raise 1 2 0 = IOOBE
            raise -1 2 0 = IOOBE
            raise 12 200 77 = IOOBE
            raise 2147483647 2 0 = IOOBE
            """);
        script.run("version or risk out of range, or a version that is not greater",
            """
            pack 5 = 0
            raise 0 5 0 = IAE
            raise 0 4 0 = IAE
            raise 0 0 0 = IAE
            raise 0 -3 0 = IAE
            raise 0 100 0 = IAE
            raise 0 2147483647 0 = IAE
            raise 0 6 10 = IAE
            raise 0 6 -1 = IAE
            raiseOf 0 0 = IOOBE
            raise 0 6 9 = 0
            """);
        script.run("of a package at most one is open",
            """
            pack 5 = 0
            raise 0 7 0 = 0
            raise 0 8 0 = ISE
            raise 0 5 0 = IAE        # listed before the state
            raise 0 8 10 = IAE
            close 0
            raise 0 6 0 = 1
            """);
        script.run("at most 10 are open",
            Script.counted(11, 0, "pack 1"),
            """
            raise 0 2 0 = 0
            raise 1 2 0 = 1
            raise 2 2 0 = 2
            raise 3 2 0 = 3
            raise 4 2 0 = 4
            raise 5 2 0 = 5
            raise 6 2 0 = 6
            raise 7 2 0 = 7
            raise 8 2 0 = 8
            raise 9 2 0 = 9
            raise 10 2 0 = ISE
            raise 10 1 0 = IAE
            raise 11 2 0 = IOOBE
            close 4
            raise 10 2 0 = 10
            raiseOf 10 5 = 10
            raise 4 2 0 = ISE
            """);
        script.run("at most 40 there are",
            """
            pack 1 = 0
            pack 1 = 1
            raise 0 2 0 = 0
            close 0
            raise 0 2 0 = 1
            close 1
            raise 0 2 0 = 2
            close 2
            raise 0 2 0 = 3
            close 3
            raise 0 2 0 = 4
            close 4
            raise 0 2 0 = 5
            close 5
            raise 0 2 0 = 6
            close 6
            raise 0 2 0 = 7
            close 7
            raise 0 2 0 = 8
            close 8
            raise 0 2 0 = 9
            close 9
            raise 0 2 0 = 10
            close 10
            raise 0 2 0 = 11
            close 11
            raise 0 2 0 = 12
            close 12
            raise 0 2 0 = 13
            close 13
            raise 0 2 0 = 14
            close 14
            raise 0 2 0 = 15
            close 15
            raise 0 2 0 = 16
            close 16
            raise 0 2 0 = 17
            close 17
            raise 0 2 0 = 18
            close 18
            raise 0 2 0 = 19
            close 19
            raise 0 2 0 = 20
            close 20
            raise 0 2 0 = 21
            close 21
            raise 0 2 0 = 22
            close 22
            raise 0 2 0 = 23
            close 23
            raise 0 2 0 = 24
            close 24
            raise 0 2 0 = 25
            close 25
            raise 0 2 0 = 26
            close 26
            raise 0 2 0 = 27
            close 27
            raise 0 2 0 = 28
            close 28
            raise 0 2 0 = 29
            close 29
            raise 0 2 0 = 30
            close 30
            raise 0 2 0 = 31
            close 31
            raise 0 2 0 = 32
            close 32
            raise 0 2 0 = 33
            close 33
            raise 0 2 0 = 34
            close 34
            raise 0 2 0 = 35
            close 35
            raise 0 2 0 = 36
            close 36
            raise 0 2 0 = 37
            close 37
            raise 0 2 0 = 38
            close 38
            raise 0 2 0 = 39
            close 39
            raise 0 2 0 = ISE
            raise 0 1 0 = IAE
            raise 1 2 0 = ISE
            raiseOf 39 0 = 3
            raiseOf 40 0 = IOOBE
            """);
        script.run("given to the reviewer with trust enough and the fewest, of several the lowest",
            Script.counted(9, 0, "pack 1"),
            """
            trust 0 2 = 5
            trust 4 9 = 5
            raise 0 2 3 = 0
            raiseOf 0 3 = 1
            raise 1 2 3 = 1
            raiseOf 1 3 = 2
            raise 2 2 2 = 2
            raiseOf 2 3 = 0
            raise 3 2 9 = 3
            raiseOf 3 3 = 4
            raise 4 2 8 = 4
            raiseOf 4 3 = 4
            raise 5 2 3 = 5
            raiseOf 5 3 = 3
            raise 6 2 0 = 6
            raiseOf 6 3 = 5
            raise 7 2 0 = 7
            raiseOf 7 3 = 0
            raise 8 2 3 = 8
            raiseOf 8 3 = 1
            """);
        script.run("raises that are no more open count for nobody",
            Script.counted(3, 0, "pack 1"),
            """
            raise 0 2 0 = 0
            raise 1 2 0 = 1
            raiseOf 1 3 = 1
            close 0
            raise 2 2 0 = 2
            raiseOf 2 3 = 0
            """);
        script.run("to none, if nobody may",
            """
            pack 1 = 0
            raise 0 2 6 = 0
            raiseOf 0 3 = -1
            trust 2 6 = 5
            raiseOf 0 3 = -1
            """);
        script.run("its age is counted from the day on which it is made",
            """
            pack 5 = 0
            pack 5 = 1
            need 0 1 0 0 = 1
            patience 2 = 7
            raise 1 6 0 = 0
            pass 3 = 3
            raise 0 6 0 = 1
            raiseOf 0 6 = 1
            pass 1 = 4
            raiseOf 1 5 = 0
            """);
        script.run("one reviewer may have all ten",
            Script.counted(10, 0, "pack 1"),
            """
            trust 4 9 = 5
            raise 0 2 9 = 0
            raise 1 2 9 = 1
            raise 2 2 9 = 2
            raise 3 2 9 = 3
            raise 4 2 9 = 4
            raise 5 2 9 = 5
            raise 6 2 9 = 6
            raise 7 2 9 = 7
            raise 8 2 9 = 8
            raise 9 2 9 = 9
            raiseOf 9 3 = 4
            load 4 = 10
            """);
        script.end();
    }
}
