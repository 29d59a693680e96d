public final class Promise15FailsTest {

    public static void main(String[] args) {
        Script script = new Script("promise 15: fails");
        script.run("how many needs would fail with the raises of its group",
            """
            pack 5 = 0
            pack 5 = 1
            pack 5 = 2
            need 0 1 0 0 = 1
            need 1 0 -1 0 = 2
            need 0 2 -1 1 = 3
            patience 2 = 7
            raise 0 6 0 = 0
            fails 0 = 2         # the third one holds just so
            raise 1 6 0 = 1
            fails 0 = 2
            fails 1 = 1
            raise 2 9 0 = 2
            fails 2 = 1
            pass 2 = 2
            fails 0 = 0
            fails 1 = 0
            fails 2 = 1
            """);
        script.run("both ends of a need hold",
            """
            pack 5 = 0
            pack 5 = 1
            need 0 1 -1 2 = 1
            raise 1 7 0 = 0
            fails 0 = 0
            close 0
            raise 1 8 0 = 1
            fails 1 = 1
            close 1
            raise 0 6 0 = 2
            fails 2 = 0
            close 2
            raise 0 7 0 = 3
            fails 3 = 1
            """);
        script.run("a need that is told later counts as well",
            """
            pack 5 = 0
            pack 5 = 1
            raise 0 6 0 = 0
            fails 0 = 0
            need 0 1 0 0 = 1
            fails 0 = 1
            """);
        script.run("no such raise, or not open",
            """
            fails 0 = IOOBE
            pack 5 = 0
            raise 0 6 0 = 0
            fails 1 = IOOBE
            fails -1 = IOOBE
            fails 2147483647 = IOOBE
            close 0
            fails 0 = ISE
            """);
        script.end();
    }
}
