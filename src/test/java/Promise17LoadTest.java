public final class Promise17LoadTest {

    public static void main(String[] args) {
        Script script = new Script("promise 17: load");
        script.run("none, where no raise is", Script.each(0, 5, "load @ = 0"));
        script.run("the least reviewer", "pack 1 = 0; raise 0 2 0 = 0; load 0 = 1; load 1 = 0");
        script.run("the greatest reviewer", "pack 1 = 0; trust 5 9 = 5; raise 0 2 9 = 0; load 5 = 1; load 4 = 0");
        script.run("all ten", Given.packs(10, 1), "trust 3 9 = 5;", Script.each(0, 9, "raise @ 2 9 = @"),
                "load 3 = 10; load 0 = 0; load 5 = 0");
        script.run("raises that have none are nobody's", "pack 1 = 0; raise 0 2 9 = 0",
                Script.each(0, 5, "load @ = 0"));
        script.run("not those that are DONE", "pack 1 = 0; raise 0 2 0 = 0; approve 0 = 0",
                "load 0 = 1; land 0 1 = 1; load 0 = 0");
        script.run("not those that are FAILED", "pack 1 = 0; raise 0 2 0 = 0; approve 0 = 0",
                "load 0 = 1; land 0 0 = 1; load 0 = 0");
        script.run("not those that are CLOSED", "pack 1 = 0; raise 0 2 0 = 0", "load 0 = 1; close 0; load 0 = 0");
        script.run("those of a group that was parted still", Given.JOINED, """
            approve 0 = 0
            approve 2 = 0
            load 0 = 1
            load 1 = 1
            load 2 = 1
            land 0 0 = 2
            load 0 = 1
            load 1 = 1
            load 2 = 1
            """);
        script.run("one less, when a joined raise is given to another one", Given.packs(8, 1),
                "need 0 6 0 0 = 1; patience 1 = 7;", Script.each(0, 6, "raise @ 2 0 = @"),
                "load 0 = 2; load 1 = 1; pass 1 = 1; load 0 = 1; load 1 = 2");
        script.run("whatever his trust is now", "pack 1 = 0; raise 0 2 5 = 0; trust 0 0 = 5; load 0 = 1");
        script.refused("no reviewer below the least", "pack 1 = 0; raise 0 2 0 = 0", "load -1 = IOOBE",
                "load -2147483648 = IOOBE");
        script.refused("no reviewer above the greatest", "pack 1 = 0; raise 0 2 0 = 0", "load 6 = IOOBE",
                "load 2147483647 = IOOBE");
        script.refused("nor where some raise has none", "pack 1 = 0; raise 0 2 9 = 0", "load -1 = IOOBE");
        script.end();
    }
}
