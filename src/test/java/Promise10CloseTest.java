public final class Promise10CloseTest {

    public static void main(String[] args) {
        Script script = new Script("promise 10: close");
        script.run("closed, and out of its group",
            """
            pack 1 = 0
            pack 1 = 1
            pack 1 = 2
            need 0 1 0 0 = 1
            patience 1 = 7
            raise 0 3 0 = 0
            raise 2 4 0 = 1
            raise 1 3 0 = 2
            pass 1 = 1
            raiseOf 2 5 = 0

            close 0
            raiseOf 0 0 = 3
            raiseOf 0 5 = -1
            raiseOf 0 6 = 0
            raiseOf 2 5 = 2
            raiseOf 2 6 = 1
            raiseOf 1 5 = 1
            version 0 = 1
            """);
        script.run("the rest stay one group, with their own lowest raise",
            """
            pack 5 = 0
            pack 5 = 1
            pack 5 = 2
            need 0 1 0 0 = 1
            need 0 2 0 0 = 2
            patience 1 = 7
            raise 1 6 0 = 0
            raise 0 6 0 = 1
            raise 2 6 0 = 2
            pass 1 = 1
            raiseOf 2 5 = 0
            raiseOf 2 6 = 3
            close 0
            raiseOf 1 5 = 1
            raiseOf 2 5 = 1
            raiseOf 2 6 = 2
            close 2
            raiseOf 1 5 = 1
            raiseOf 1 6 = 1
            """);
        script.run("it keeps its reviewer and approval, and is nobody's load",
            """
            pack 1 = 0
            raise 0 2 0 = 0
            approve 0 = 0
            load 0 = 1
            close 0
            raiseOf 0 3 = 0
            raiseOf 0 4 = 1
            load 0 = 0
            """);
        script.run("the rest of its group are given reviewers, if they have none",
            """
            pack 5 = 0
            pack 5 = 1
            need 0 1 0 0 = 1
            patience 1 = 7
            trust 3 8 = 5
            raise 0 6 8 = 0
            raise 1 6 8 = 1
            raiseOf 1 3 = 3
            approve 0 = 0
            approve 1 = 0
            pass 1 = 1
            raiseOf 0 3 = 3
            raiseOf 0 4 = 1
            raiseOf 1 3 = -1
            raiseOf 1 4 = 0
            approve 1 = ISE
            close 0
            raiseOf 1 3 = 3
            raiseOf 1 4 = 0
            """);
        script.run("no such raise, or not open",
            """
            close 0 = IOOBE
            pack 1 = 0
            raise 0 2 0 = 0
            close 1 = IOOBE
            close -1 = IOOBE
            close 2147483647 = IOOBE
            close 0
            close 0 = ISE
            raise 0 2 0 = 1
            approve 1 = 0
            land 1 1 = 1
            close 1 = ISE
            """);
        script.run("a lower one of its group is given the reviewer that it had",
            """
            pack 5 = 0
            pack 5 = 1
            need 0 1 0 0 = 1
            patience 1 = 7
            raise 0 6 7 = 0
            trust 2 7 = 5
            raise 1 6 7 = 1
            pass 1 = 1
            raiseOf 0 6 = 2
            raiseOf 0 3 = -1
            close 1
            raiseOf 0 3 = 2
            raiseOf 1 3 = 2
            load 2 = 1
            """);
        script.run("no other group is given reviewers",
            """
            pack 5 = 0
            pack 5 = 1
            raise 0 6 7 = 0
            raise 1 6 0 = 1
            trust 2 7 = 5
            close 1
            raiseOf 0 3 = -1
            """);
        script.end();
    }
}
