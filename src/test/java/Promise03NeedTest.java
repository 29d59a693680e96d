public final class Promise03NeedTest {

    public static void main(String[] args) {
        Script script = new Script("promise 3: need");
        script.run("counts them, and bounds belong to the range",
            """
            pack 5 = 0
            pack 7 = 1
            need 0 1 2 2 = 1
            need 0 1 -98 2 = 2
            need 0 1 2 98 = 3
            need 1 0 -2 -2 = 4
            need 1 0 -98 98 = 5
            """);
        script.run("it must hold now: the version of the other one, less its own one",
            """
            pack 5 = 0
            pack 7 = 1
            need 0 1 3 9 = ISE
            need 0 1 -9 1 = ISE
            need 1 0 2 2 = ISE
            need 0 1 2 2 = 1
            """);
        script.run("no such package, of both",
            """
            need 0 0 0 0 = IOOBE
            pack 5 = 0
            pack 5 = 1
            need 2 0 0 0 = IOOBE
            need 0 2 0 0 = IOOBE
            need -1 0 0 0 = IOOBE
            need 0 -1 0 0 = IOOBE
            need 2 2 99 99 = IOOBE
            need 0 2147483647 -99 0 = IOOBE
            """);
        script.run("both the same, or the range out of range",
            """
            pack 5 = 0
            pack 5 = 1
            need 0 0 0 0 = IAE
            need 1 1 5 9 = IAE
            need 0 1 -99 0 = IAE
            need 0 1 99 99 = IAE
            need 0 1 0 99 = IAE
            need 0 1 1 0 = IAE
            need 0 1 5 4 = IAE       # listed before that it does not hold
            need 0 1 -2147483648 0 = IAE
            need 0 1 0 2147483647 = IAE
            need 0 1 0 0 = 1
            """);
        script.run("the widest gaps",
            """
            pack 1 = 0
            pack 99 = 1
            need 0 1 98 98 = 1
            need 1 0 -98 -98 = 2
            """);
        script.run("at most 20",
            """
            pack 5 = 0
            pack 6 = 1
            """,
            Script.counted(20, 1, "need 0 1 0 1"),
            """
            need 0 1 0 1 = ISE
            need 0 0 0 1 = IAE
            need 0 2 0 1 = IOOBE
            raise 0 7 0 = 0
            fails 0 = 20
            """);
        script.run("it is told of the versions, not of the raises that are open",
            """
            pack 5 = 0
            pack 5 = 1
            raise 0 6 0 = 0
            need 0 1 -1 -1 = ISE
            need 0 1 0 0 = 1
            fails 0 = 1
            """);
        script.end();
    }
}
