public final class Promise06FreezeTest {

    private static final String READY = "pack 1 = 0; raise 0 2 0 = 0; approve 0 = 0;";

    public static void main(String[] args) {
        Script script = new Script("promise 6: freeze");
        ranges(script);
        howMany(script);
        days(script);
        packages(script);
        script.end();
    }

    private static void ranges(Script script) {
        script.run("it is told how many there are then", "freeze 1 0 0 = 1; freeze 1 0 0 = 2; freeze 6 5 9 = 3");
        script.run("the least set", "freeze 1 0 1000 = 1");
        script.run("the greatest set", "freeze 4095 0 1000 = 1");
        script.refused("no empty set, nor a lower one", READY, "freeze 0 0 0 = IAE", "freeze -1 0 0 = IAE",
                "freeze -2147483648 0 0 = IAE");
        script.refused("no set above the greatest", READY, "freeze 4096 0 0 = IAE", "freeze 4097 0 0 = IAE",
                "freeze 2147483647 0 0 = IAE");
        script.run("the least first day", "freeze 1 0 5 = 1");
        script.run("the greatest first day", "freeze 1 1000 1000 = 1");
        script.refused("no first day below the least", READY, "freeze 1 -1 0 = IAE", "freeze 1 -1 -1 = IAE",
                "freeze 1 -2147483648 0 = IAE");
        script.refused("no first day above the greatest", READY, "freeze 1 1001 1001 = IAE",
                "freeze 1 1001 1000 = IAE", "freeze 1 2147483647 2147483647 = IAE");
        script.run("the last day may be the first one", "freeze 1 0 0 = 1; freeze 1 500 500 = 2");
        script.run("the greatest last day", "freeze 1 0 1000 = 1");
        script.refused("no last day before the first one", READY, "freeze 1 1 0 = IAE", "freeze 1 5 4 = IAE",
                "freeze 1 1000 999 = IAE", "freeze 1 0 -1 = IAE", "freeze 1 0 -2147483648 = IAE");
        script.refused("no last day above the greatest", READY, "freeze 1 0 1001 = IAE", "freeze 1 1000 1001 = IAE",
                "freeze 1 0 2147483647 = IAE");
        script.run("of days that are over", "pass 5 = 5; freeze 1 0 4 = 1");
    }

    private static void howMany(Script script) {
        String full = READY + Script.each(1, 10, "freeze 1 5 6 = @");
        script.run("ten of them", Script.each(1, 10, "freeze 1 5 6 = @"));
        script.run("the tenth counts as the first does", READY, Script.each(1, 9, "freeze 2 0 0 = @"),
                "canLand 0 = 1; freeze 1 0 0 = 10; canLand 0 = 0");
        script.run("the first one counts still, where there are ten", READY, "freeze 1 0 0 = 1;",
                Script.each(2, 10, "freeze 2 0 0 = @"), "canLand 0 = 0");
        script.run("ten of other days hold nothing up", full, "canLand 0 = 1; land 0 1 = 1");
        script.run("ten of other packages hold nothing up", READY, Script.each(1, 10, "freeze 4094 0 1000 = @"),
                "canLand 0 = 1; land 0 1 = 1");
        script.refused("no eleventh", full, "freeze 1 0 0 = ISE", "freeze 4095 0 1000 = ISE", "freeze 1 5 6 = ISE");
        script.refused("an argument out of range comes first, where there are ten", full, "freeze 0 0 0 = IAE",
                "freeze 4096 0 0 = IAE", "freeze 1 -1 0 = IAE", "freeze 1 1001 1001 = IAE", "freeze 1 6 5 = IAE",
                "freeze 1 0 1001 = IAE");
        script.run("a refused one is not counted", "freeze 0 0 0 = IAE; freeze 1 6 5 = IAE; freeze 1 0 0 = 1");
    }

    private static void days(Script script) {
        script.run("not on the day before its first one", READY, "freeze 1 2 3 = 1; pass 1 = 1; canLand 0 = 1");
        script.run("on its first day", READY, "freeze 1 2 3 = 1; pass 2 = 2; canLand 0 = 0; land 0 1 = ISE");
        script.run("on its last day", READY, "freeze 1 2 3 = 1; pass 3 = 3; canLand 0 = 0; land 0 1 = ISE");
        script.run("not on the day behind its last one", READY,
                "freeze 1 2 3 = 1; pass 4 = 4; canLand 0 = 1; land 0 1 = 1");
        script.run("between its days", READY, "freeze 1 2 9 = 1; pass 5 = 5; canLand 0 = 0");
        script.run("of one day alone, the day 0", READY,
                "freeze 1 0 0 = 1; canLand 0 = 0; pass 1 = 1; canLand 0 = 1");
        script.run("of one day alone, the day 1000", READY, "freeze 1 1000 1000 = 1;",
                Script.each(1, 9, "pass 100 = @00"),
                "pass 99 = 999; canLand 0 = 1; pass 1 = 1000; canLand 0 = 0");
        script.run("of all days", READY, "freeze 1 0 1000 = 1; canLand 0 = 0;", Script.each(1, 10, "pass 100 = @00"),
                "canLand 0 = 0");
        script.run("of days that are over it holds nothing up", READY, "pass 5 = 5; freeze 1 0 4 = 1; canLand 0 = 1");
        script.run("two of them, and days between", READY, """
            freeze 1 1 1 = 1
            freeze 1 3 3 = 2
            pass 1 = 1
            canLand 0 = 0
            pass 1 = 2
            canLand 0 = 1
            pass 1 = 3
            canLand 0 = 0
            """);
    }

    private static void packages(Script script) {
        script.run("the lowest bit is package 0, and no other one", READY,
                "freeze 4094 0 1000 = 1; canLand 0 = 1; freeze 1 0 1000 = 2; canLand 0 = 0");
        script.run("the highest bit is package 11, and no other one", Given.packs(12, 1), """
            raise 11 2 0 = 0
            approve 0 = 0
            freeze 2047 0 1000 = 1
            canLand 0 = 1
            freeze 2048 0 1000 = 2
            canLand 0 = 0
            """);
        script.run("all packages", Given.packs(12, 1), """
            freeze 4095 0 1000 = 1
            raise 0 2 0 = 0
            raise 6 2 0 = 1
            raise 11 2 0 = 2
            approve 0 = 0
            approve 1 = 0
            approve 2 = 0
            canLand 0 = 0
            canLand 1 = 0
            canLand 2 = 0
            """);
        script.run("of packages that are not there yet", """
            pack 1 = 0
            freeze 2 0 1000 = 1
            raise 0 2 0 = 0
            approve 0 = 0
            canLand 0 = 1
            pack 1 = 1
            raise 1 2 0 = 1
            approve 1 = 0
            canLand 1 = 0
            canLand 0 = 1
            """);
        script.run("of any one package of a group", Given.JOINED, """
            approve 0 = 0
            approve 2 = 0
            freeze 4 0 1000 = 1
            canLand 0 = 1
            freeze 1 2 2 = 2
            freeze 2 3 3 = 3
            pass 1 = 2
            canLand 0 = 0
            canLand 2 = 0
            pass 1 = 3
            canLand 0 = 0
            canLand 2 = 0
            pass 1 = 4
            canLand 0 = 1
            """);
        script.run("of the tenth raise that is open", Given.FORTY,
                "approve 39 = 0; freeze 512 0 0 = 1; canLand 39 = 0; land 39 1 = ISE; pass 1 = 1; canLand 39 = 1");
        script.run("of the tenth raise that is open, which is one of a group", Given.FORTY_JOINED,
                "approve 32 = 0; approve 39 = 0; canLand 32 = 1; freeze 512 7 7 = 1; canLand 32 = 0; canLand 39 = 0");
        script.run("of the package of a raise, not of its number", Given.packs(2, 1), """
            raise 1 2 0 = 0
            approve 0 = 0
            freeze 1 0 0 = 1
            canLand 0 = 1
            freeze 2 0 0 = 2
            canLand 0 = 0
            """);
        script.run("what is frozen can be raised, approved and closed", """
            pack 1 = 0
            freeze 1 0 1000 = 1
            raise 0 2 0 = 0
            approve 0 = 0
            close 0
            """);
    }
}
