public final class Promise16CanLandTest {

    public static void main(String[] args) {
        Script script = new Script("promise 16: canLand");
        script.run("it goes, all its raises are approved, and no freeze is of one of their packages",
            """
            pack 1 = 0
            pack 1 = 1
            pack 1 = 2
            need 0 1 0 0 = 1
            patience 1 = 7
            raise 0 3 0 = 0
            raise 2 4 0 = 1
            raise 1 3 0 = 2
            pass 1 = 1
            raiseOf 2 5 = 0

            canLand 0 = 0
            approve 2 = 0
            canLand 0 = 0
            canLand 2 = 0
            approve 0 = 0
            canLand 0 = 1
            canLand 2 = 1
            freeze 4 0 1000 = 1
            canLand 0 = 1
            freeze 2 2 3 = 2
            canLand 0 = 1
            pass 1 = 2
            canLand 0 = 0
            canLand 2 = 0
            pass 2 = 4
            canLand 0 = 1
            """);
        script.run("a group that does not go cannot",
            """
            pack 5 = 0
            pack 5 = 1
            need 0 1 0 0 = 1
            raise 0 6 0 = 0
            approve 0 = 0
            canLand 0 = 0
            close 0
            raise 0 7 0 = 1
            canLand 1 = 0
            """);
        script.run("no such raise, or not open",
            """
            canLand 0 = IOOBE
            pack 5 = 0
            raise 0 6 0 = 0
            canLand 1 = IOOBE
            canLand -1 = IOOBE
            canLand -2147483648 = IOOBE
            approve 0 = 0
            land 0 1 = 1
            canLand 0 = ISE
            """);
        script.end();
    }
}
