public final class Promise17LoadTest {

    public static void main(String[] args) {
        Script script = new Script("promise 17: load");
        script.run("how many raises that are open a reviewer has",
            Script.counted(9, 0, "pack 1"),
            """
            trust 1 9 = 5
            raise 0 2 8 = 0
            load 1 = 1
            raise 1 2 7 = 1
            load 1 = 2
            load 0 = 0
            raise 2 2 0 = 2
            load 0 = 1
            approve 0 = 0
            load 1 = 2
            land 0 1 = 1
            load 1 = 1
            close 1
            load 1 = 0
            approve 2 = 0
            land 2 0 = 1
            load 0 = 0
            trust 1 0 = 9
            raise 3 2 9 = 3
            load 0 = 0
            load 1 = 0
            load 5 = 0
            """);
        script.run("no such reviewer",
            """
            load -1 = IOOBE
            load 6 = IOOBE
            load 2147483647 = IOOBE
            load -2147483648 = IOOBE
            load 5 = 0
            """);
        script.end();
    }
}
