public final class Promise09LandTest {

    public static void main(String[] args) {
        Script script = new Script("promise 9: land");
        script.run("it passes: the new versions are there, and the raises are done",
            """
            pack 1 = 0
            pack 1 = 1
            pack 1 = 2
            need 0 1 0 0 = 1
            patience 1 = 7
            raise 0 3 0 = 0
            raise 2 4 0 = 1
            raise 1 3 0 = 2
            pass 1 = 1
            raiseOf 2 5 = 0

            approve 0 = 0
            land 0 1 = ISE
            approve 2 = 0
            land 2 1 = 2
            version 0 = 3
            version 1 = 3
            version 2 = 1
            raiseOf 0 0 = 1
            raiseOf 2 0 = 1
            raiseOf 1 0 = 0
            raiseOf 0 4 = 1
            raiseOf 0 5 = -1
            raiseOf 2 6 = 0
            raiseOf 1 5 = 1
            load 0 = 0
            load 1 = 1
            land 0 1 = ISE
            approve 1 = 0
            land 1 1 = 1
            version 2 = 4
            """);
        script.run("it fails: each raise is in a group of its own, and not approved",
            """
            pack 1 = 0
            pack 1 = 1
            pack 1 = 2
            need 0 1 0 0 = 1
            patience 1 = 7
            raise 0 3 0 = 0
            raise 2 4 0 = 1
            raise 1 3 0 = 2
            pass 1 = 1
            raiseOf 2 5 = 0

            approve 0 = 0
            approve 1 = 0
            approve 2 = 0
            land 0 0 = 2
            version 0 = 1
            version 1 = 1
            raiseOf 0 0 = 0
            raiseOf 2 0 = 0
            raiseOf 0 4 = 0
            raiseOf 2 4 = 0
            raiseOf 0 5 = 0
            raiseOf 2 5 = 2
            raiseOf 0 6 = 1
            raiseOf 2 6 = 1
            raiseOf 0 3 = 0
            raiseOf 2 3 = 2
            raiseOf 1 4 = 1
            """);
        script.run("one that was alone has failed, and is told as approved still",
            """
            pack 1 = 0
            raise 0 2 0 = 0
            approve 0 = 0
            land 0 0 = 1
            raiseOf 0 0 = 2
            raiseOf 0 3 = 0
            raiseOf 0 4 = 1
            raiseOf 0 5 = -1
            raiseOf 0 6 = 0
            version 0 = 1
            load 0 = 0
            land 0 0 = ISE
            raise 0 2 0 = 1
            """);
        script.run("no such raise",
            """
            land 0 1 = IOOBE
            pack 1 = 0
            raise 0 2 0 = 0
            land 1 1 = IOOBE
            land -1 0 = IOOBE
            land 2147483647 0 = IOOBE
            """);
        script.run("not open, or a group that cannot land, whether it would pass or not",
            """
            pack 1 = 0
            pack 1 = 1
            need 0 1 0 0 = 1
            raise 0 2 0 = 0
            approve 0 = 0
            land 0 1 = ISE
            land 0 0 = ISE
            raiseOf 0 0 = 0
            close 0
            land 0 1 = ISE
            freeze 1 0 0 = 1
            raise 0 2 0 = 1
            raise 1 2 0 = 2
            patience 1 = 7
            pass 1 = 1
            land 2 1 = ISE
            approve 1 = 0
            land 2 1 = ISE
            approve 2 = 0
            freeze 2 1 1 = 2
            land 1 1 = ISE
            pass 1 = 2
            land 1 1 = 2
            version 1 = 2
            """);
        script.end();
    }
}
