public final class Promise02PackTest {

    public static void main(String[] args) {
        Script script = new Script("promise 2: pack");
        script.run("versions from 1 to 99, numbers from 0",
            """
            pack 1 = 0
            pack 99 = 1
            pack 50 = 2
            version 0 = 1
            version 1 = 99
            version 2 = 50
            """);
        script.run("versions out of range make no package",
            """
            pack 0 = IAE
            pack 100 = IAE
            pack -1 = IAE
            pack -2147483648 = IAE
            pack 2147483647 = IAE
            version 0 = IOOBE
            pack 7 = 0
            """);
        script.run("at most 12",
            Script.counted(12, 0, "pack 9"),
            """
            pack 9 = ISE
            pack 0 = IAE    # listed before the state
            pack 100 = IAE
            version 11 = 9
            version 12 = IOOBE
            """);
        script.end();
    }
}
