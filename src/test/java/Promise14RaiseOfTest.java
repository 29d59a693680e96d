public final class Promise14RaiseOfTest {

    public static void main(String[] args) {
        Script script = new Script("promise 14: raiseOf");
        script.run("of one that is open, alone",
            """
            pack 5 = 0
            pack 6 = 1
            raise 1 9 2 = 0
            raise 0 7 2 = 1
            raiseOf 1 0 = 0
            raiseOf 1 1 = 0
            raiseOf 1 2 = 7
            raiseOf 1 3 = 1
            raiseOf 1 4 = 0
            raiseOf 1 5 = 1
            raiseOf 1 6 = 1
            approve 1 = 0
            raiseOf 1 4 = 1
            """);
        script.run("of one in a group",
            """
            pack 1 = 0
            pack 1 = 1
            pack 1 = 2
            need 0 1 0 0 = 1
            patience 1 = 7
            raise 0 3 0 = 0
            raise 2 4 0 = 1
            raise 1 3 0 = 2
            pass 1 = 1
            raiseOf 2 5 = 0

            raiseOf 0 5 = 0
            raiseOf 0 6 = 2
            raiseOf 2 5 = 0
            raiseOf 2 6 = 2
            raiseOf 1 5 = 1
            raiseOf 1 6 = 1
            """);
        script.run("of one that is not open: its reviewer and approval as when it was open last",
            """
            pack 5 = 0
            trust 0 0 = 5
            raise 0 9 2 = 0
            approve 0 = 0
            land 0 1 = 1
            raiseOf 0 0 = 1
            raiseOf 0 1 = 0
            raiseOf 0 2 = 9
            raiseOf 0 3 = 1
            raiseOf 0 4 = 1
            raiseOf 0 5 = -1
            raiseOf 0 6 = 0
            raise 0 10 2 = 1
            close 1
            raiseOf 1 0 = 3
            raiseOf 1 3 = 1
            raiseOf 1 4 = 0
            raiseOf 1 5 = -1
            raiseOf 1 6 = 0
            raise 0 10 9 = 2
            close 2
            trust 1 9 = 5
            raiseOf 2 3 = -1
            raise 0 10 9 = 3
            approve 3 = 0
            land 3 0 = 1
            raiseOf 3 0 = 2
            raiseOf 3 3 = 1
            raiseOf 3 4 = 1
            """);
        script.run("no such raise, or nothing of the kind",
            """
            raiseOf 0 0 = IOOBE
            raiseOf 0 7 = IOOBE
            pack 5 = 0
            raise 0 9 2 = 0
            raiseOf 1 0 = IOOBE
            raiseOf -1 0 = IOOBE
            raiseOf 1 9 = IOOBE
            raiseOf 2147483647 0 = IOOBE
            raiseOf 0 -1 = IAE
            raiseOf 0 7 = IAE
            raiseOf 0 2147483647 = IAE
            raiseOf 0 -2147483648 = IAE
            close 0
            raiseOf 0 7 = IAE
            """);
        script.end();
    }
}
