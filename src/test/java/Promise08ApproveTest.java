public final class Promise08ApproveTest {

    public static void main(String[] args) {
        Script script = new Script("promise 8: approve");
        script.run("returns whether it was approved",
            """
            pack 1 = 0
            raise 0 2 0 = 0
            raiseOf 0 4 = 0
            approve 0 = 0
            raiseOf 0 4 = 1
            approve 0 = 1
            raiseOf 0 4 = 1
            """);
        script.run("one raise alone",
            """
            pack 1 = 0
            pack 1 = 1
            raise 0 2 0 = 0
            raise 1 2 0 = 1
            approve 1 = 0
            raiseOf 0 4 = 0
            raiseOf 1 4 = 1
            """);
        script.run("no such raise",
            """
            approve 0 = IOOBE
            pack 1 = 0
            raise 0 2 0 = 0
            approve 1 = IOOBE
            approve -1 = IOOBE
            approve 2147483647 = IOOBE
            """);
        script.run("not open, or without a reviewer",
            """
            pack 1 = 0
            raise 0 2 6 = 0
            approve 0 = ISE
            raiseOf 0 4 = 0
            close 0
            approve 0 = ISE
            raise 0 2 0 = 1
            approve 1 = 0
            land 1 0 = 1
            approve 1 = ISE
            raise 0 2 0 = 2
            approve 2 = 0
            land 2 1 = 1
            approve 2 = ISE
            """);
        script.end();
    }
}
