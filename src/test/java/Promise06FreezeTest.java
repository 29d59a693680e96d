public final class Promise06FreezeTest {

    public static void main(String[] args) {
        Script script = new Script("promise 6: freeze");
        script.run("counts them",
            """
            freeze 1 0 0 = 1
            freeze 4095 0 1000 = 2
            freeze 1 1000 1000 = 3
            freeze 2048 5 6 = 4
            """);
        script.run("packages, from or to out of range",
            """
            freeze 0 0 0 = IAE
            freeze 4096 0 0 = IAE
            freeze -1 0 0 = IAE
            freeze 1 -1 0 = IAE
            freeze 1 1001 1001 = IAE
            freeze 1 0 1001 = IAE
            freeze 1 5 4 = IAE
            freeze 1 0 2147483647 = IAE
            freeze -2147483648 0 0 = IAE
            freeze 1 5 5 = 1
            """);
        script.run("at most 10",
            Script.counted(10, 1, "freeze 1 0 5"),
            """
            freeze 1 0 5 = ISE
            freeze 0 0 5 = IAE
            freeze 1 6 5 = IAE
            """);
        script.run("from its first day to its last one, and not around them",
            """
            pack 1 = 0
            raise 0 2 0 = 0
            approve 0 = 0
            freeze 1 2 3 = 1
            canLand 0 = 1
            pass 1 = 1
            canLand 0 = 1
            pass 1 = 2
            canLand 0 = 0
            land 0 1 = ISE
            pass 1 = 3
            canLand 0 = 0
            pass 1 = 4
            canLand 0 = 1
            land 0 1 = 1
            """);
        script.run("it is of its packages alone, there or not",
            """
            pack 1 = 0
            freeze 2 0 1000 = 1
            raise 0 2 0 = 0
            approve 0 = 0
            canLand 0 = 1
            pack 1 = 1
            raise 1 2 0 = 1
            approve 1 = 0
            canLand 1 = 0
            canLand 0 = 1
            """);
        script.run("a freeze of another package does not count, one of any of a group does",
            """
            pack 1 = 0
            pack 1 = 1
            pack 1 = 2
            need 1 2 0 0 = 1
            patience 1 = 7
            raise 1 2 0 = 0
            raise 2 2 0 = 1
            pass 1 = 1
            approve 0 = 0
            approve 1 = 0
            freeze 1 0 1000 = 1
            canLand 0 = 1
            freeze 2 2 2 = 2
            freeze 4 3 3 = 3
            pass 1 = 2
            canLand 1 = 0
            pass 1 = 3
            canLand 0 = 0
            pass 1 = 4
            canLand 0 = 1
            """);
        script.end();
    }
}
