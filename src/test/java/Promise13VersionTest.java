public final class Promise13VersionTest {

    public static void main(String[] args) {
        Script script = new Script("promise 13: version");
        script.run("the least and the greatest", "pack 1 = 0; pack 99 = 1; version 0 = 1; version 1 = 99");
        script.run("each of twelve its own one", Script.each(0, 9, "pack 2@ = @"), "pack 30 = 10; pack 31 = 11;",
                Script.each(0, 9, "version @ = 2@"), "version 10 = 30; version 11 = 31");
        script.run("a raise that is open changes nothing",
                "pack 4 = 0; raise 0 6 0 = 0; version 0 = 4; approve 0 = 0; version 0 = 4");
        script.run("one that lands does",
                "pack 4 = 0; pack 8 = 1; raise 0 6 0 = 0; approve 0 = 0; land 0 1 = 1; version 0 = 6; version 1 = 8");
        script.run("one that fails does not",
                "pack 4 = 0; raise 0 6 0 = 0; approve 0 = 0; land 0 0 = 1; version 0 = 4");
        script.run("one that is closed does not",
                "pack 4 = 0; raise 0 6 0 = 0; approve 0 = 0; close 0; version 0 = 4");
        script.run("up to the greatest",
                "pack 98 = 0; raise 0 99 0 = 0; approve 0 = 0; land 0 1 = 1; version 0 = 99");
        script.refused("no package is there yet", "", "version 0 = IOOBE", "version -1 = IOOBE");
        script.refused("no package below 0", "pack 4 = 0", "version -1 = IOOBE", "version -2147483648 = IOOBE");
        script.refused("no package above the last one", "pack 4 = 0", "version 1 = IOOBE", "version 11 = IOOBE",
                "version 12 = IOOBE", "version 2147483647 = IOOBE");
        script.refused("no package above the twelfth", Given.packs(12, 4), "version 12 = IOOBE",
                "version 13 = IOOBE");
        script.end();
    }
}
