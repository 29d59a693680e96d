public final class Promise02PackTest {

    public static void main(String[] args) {
        Script script = new Script("promise 2: pack");
        script.run("numbers from 0, each with its own version", """
            pack 7 = 0
            pack 50 = 1
            pack 7 = 2
            version 0 = 7
            version 1 = 50
            version 2 = 7
            """);
        script.run("the least version", "pack 1 = 0; version 0 = 1");
        script.run("the greatest version", "pack 99 = 0; version 0 = 99");
        script.refused("no version below the least", "", "pack 0 = IAE", "pack -1 = IAE", "pack -2147483648 = IAE");
        script.refused("no version above the greatest", "", "pack 100 = IAE", "pack 2147483647 = IAE");
        script.refused("no such version, where packages are", "pack 7 = 0", "pack 0 = IAE", "pack 100 = IAE");
        script.run("a refused one takes no number", "pack 0 = IAE; pack 100 = IAE; pack 7 = 0; pack 8 = 1");
        script.run("twelve of them", Script.each(0, 11, "pack 9 = @"), Script.each(0, 11, "version @ = 9"),
                "version 12 = IOOBE");
        script.run("twelve of them, the last ones of the least and the greatest version",
                Given.packs(10, 9), "pack 1 = 10; pack 99 = 11; version 10 = 1; version 11 = 99; version 0 = 9");
        script.refused("no thirteenth", Given.packs(12, 9), "pack 1 = ISE", "pack 9 = ISE", "pack 99 = ISE");
        script.refused("a version out of range comes first, where there are twelve", Given.packs(12, 9),
                "pack 0 = IAE", "pack 100 = IAE", "pack -2147483648 = IAE");
        script.run("one more can be made at any time", Given.JOINED, """
            pack 4 = 3
            version 3 = 4
            raise 3 5 0 = 3
            raiseOf 2 6 = 2
            pass 2 = 3
            pack 1 = 4
            """);
        script.end();
    }
}
