public final class Promise20ToldTest {

    public static void main(String[] args) {
        Script script = new Script("promise 20: told");
        script.run("its package, its version, two digits",
            """
            pack 1 = 0
            pack 1 = 1
            raise 1 7 0 = 0
            raise 0 42 0 = 1
            told 0 0 = 'B'
            told 0 1 = '0'
            told 0 2 = '7'
            told 0 3 = 0
            told 0 4 = 0
            told 0 2147483647 = 0
            told 1 0 = 'A'
            told 1 1 = '4'
            told 1 2 = '2'
            told 1 3 = 0
            """);
        script.run("the twelfth package, the highest version",
            Script.counted(12, 0, "pack 98"),
            """
            raise 11 99 0 = 0
            told 0 0 = 'L'
            told 0 1 = '9'
            told 0 2 = '9'
            told 0 3 = 0
            """);
        script.run("a + for each other raise of its group",
            """
            pack 1 = 0
            pack 1 = 1
            pack 1 = 2
            need 0 1 0 0 = 1
            patience 1 = 7
            raise 0 3 0 = 0
            raise 2 4 0 = 1
            raise 1 3 0 = 2
            pass 1 = 1
            raiseOf 2 5 = 0

            told 0 0 = 'A'
            told 2 0 = 'B'
            told 2 1 = '0'
            told 2 2 = '3'
            told 2 3 = '+'
            told 2 4 = 0
            told 0 3 = '+'
            told 0 4 = 0
            told 1 3 = 0
            close 0
            told 2 3 = 0
            """);
        script.run("two others",
            """
            pack 5 = 0
            pack 5 = 1
            pack 5 = 2
            need 0 1 0 0 = 1
            need 0 2 0 0 = 2
            patience 1 = 7
            raise 0 10 0 = 0
            raise 1 10 0 = 1
            raise 2 10 0 = 2
            pass 1 = 1
            raiseOf 0 6 = 3
            told 0 1 = '1'
            told 0 2 = '0'
            told 0 3 = '+'
            told 0 4 = '+'
            told 0 5 = 0
            """);
        script.run("no such raise, or at is below 0, both before the state",
            """
            told 0 0 = IOOBE
            pack 5 = 0
            raise 0 6 0 = 0
            told 1 0 = IOOBE
            told -1 0 = IOOBE
            told 2147483647 -1 = IOOBE
            told 0 -1 = IOOBE
            told 0 -2147483648 = IOOBE
            close 0
            told 0 -1 = IOOBE
            told 0 0 = ISE
            told 0 99 = ISE
            """);
        script.end();
    }
}
