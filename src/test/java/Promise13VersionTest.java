public final class Promise13VersionTest {

    public static void main(String[] args) {
        Script script = new Script("promise 13: version");
        script.run("the version of a package, which only landing changes",
            """
            pack 4 = 0
            pack 8 = 1
            version 0 = 4
            version 1 = 8
            raise 0 6 0 = 0
            version 0 = 4
            approve 0 = 0
            land 0 1 = 1
            version 0 = 6
            version 1 = 8
            raise 1 9 0 = 1
            approve 1 = 0
            land 1 0 = 1
            version 1 = 8
            """);
        script.run("no such package",
            """
            version 0 = IOOBE
            pack 4 = 0
            version 1 = IOOBE
            version -1 = IOOBE
            version 12 = IOOBE
            version 2147483647 = IOOBE
            version -2147483648 = IOOBE
            """);
        script.end();
    }
}
