public final class Promise04TrustTest {

    public static void main(String[] args) {
        Script script = new Script("promise 4: trust");
        script.run("returns what it was",
            """
            trust 0 9 = 5
            trust 0 0 = 9
            trust 0 3 = 0
            trust 5 4 = 5
            trust 5 5 = 4
            """);
        script.run("no such reviewer, or trust out of range",
            """
            trust -1 5 = IOOBE
            trust 6 5 = IOOBE
            trust 6 10 = IOOBE      # listed first
            trust 2147483647 0 = IOOBE
            trust 1 -1 = IAE
            trust 1 10 = IAE
            trust 1 -2147483648 = IAE
            trust 1 5 = 5
            """);
        script.run("for what is given from now on",
            """
            pack 1 = 0
            pack 1 = 1
            raise 0 2 5 = 0
            approve 0 = 0
            trust 0 0 = 5
            raiseOf 0 3 = 0
            raiseOf 0 4 = 1
            close 0
            raise 0 2 5 = 1
            raiseOf 1 3 = 1
            raise 1 2 0 = 2
            raiseOf 2 3 = 0
            """);
        script.run("a trust as high as the risk is enough",
            """
            pack 1 = 0
            trust 3 9 = 5
            raise 0 2 9 = 0
            raiseOf 0 3 = 3
            """);
        script.end();
    }
}
