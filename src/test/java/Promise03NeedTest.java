public final class Promise03NeedTest {

    private static final String TWO = "pack 5 = 0; pack 7 = 1;";

    public static void main(String[] args) {
        Script script = new Script("promise 3: need");
        ranges(script);
        packages(script);
        holding(script);
        howMany(script);
        script.end();
    }

    private static void ranges(Script script) {
        script.run("it is told how many there are then", TWO,
                "need 0 1 2 2 = 1; need 1 0 -2 0 = 2; need 0 1 0 9 = 3");
        script.run("the least least", TWO, "need 0 1 -98 2 = 1; raise 1 8 0 = 0; fails 0 = 1");
        script.run("the least least is the least most as well", "pack 99 = 0; pack 1 = 1; need 0 1 -98 -98 = 1");
        script.run("the greatest most", TWO, "need 0 1 2 98 = 1; raise 0 6 0 = 0; fails 0 = 1");
        script.run("the greatest most is the greatest least as well", "pack 1 = 0; pack 99 = 1; need 0 1 98 98 = 1");
        script.run("the widest range", TWO, "need 0 1 -98 98 = 1; raise 1 99 0 = 0; fails 0 = 0");
        script.run("most may be as small as least", TWO, "need 0 1 2 2 = 1");
        script.refused("no least below the least", TWO, "need 0 1 -99 2 = IAE", "need 0 1 -99 -99 = IAE",
                "need 0 1 -100 98 = IAE", "need 0 1 -2147483648 2 = IAE", "need 0 1 -2147483648 -2147483648 = IAE");
        script.refused("no least above the greatest", TWO, "need 0 1 99 98 = IAE", "need 0 1 99 99 = IAE",
                "need 0 1 2147483647 2147483647 = IAE");
        script.refused("no most below the least one", TWO, "need 0 1 2 1 = IAE", "need 0 1 3 2 = IAE",
                "need 0 1 98 97 = IAE", "need 0 1 -98 -99 = IAE", "need 0 1 0 -2147483648 = IAE");
        script.refused("no most above the greatest", TWO, "need 0 1 2 99 = IAE", "need 0 1 -98 99 = IAE",
                "need 0 1 0 2147483647 = IAE");
        script.refused("not of a package to itself", TWO, "need 0 0 0 0 = IAE", "need 1 1 -98 98 = IAE");
    }

    private static void packages(Script script) {
        script.refused("no package is there yet", "", "need 0 1 0 0 = IOOBE", "need 0 0 0 0 = IOOBE");
        script.refused("one package alone", "pack 5 = 0", "need 0 1 0 0 = IOOBE", "need 1 0 0 0 = IOOBE",
                "need 0 0 0 0 = IAE");
        script.refused("no such package that needs", TWO, "need -1 0 0 0 = IOOBE", "need 2 0 0 0 = IOOBE",
                "need 12 0 0 0 = IOOBE", "need -2147483648 0 0 0 = IOOBE", "need 2147483647 0 0 0 = IOOBE");
        script.refused("no such package that is needed", TWO, "need 0 -1 0 0 = IOOBE", "need 0 2 0 0 = IOOBE",
                "need 0 12 0 0 = IOOBE", "need 0 -2147483648 0 0 = IOOBE", "need 0 2147483647 0 0 = IOOBE");
        script.run("the first and the last of twelve", Given.packs(12, 5), "need 0 11 0 0 = 1; need 11 0 0 0 = 2");
        script.refused("none above the twelfth", Given.packs(12, 5), "need 12 0 0 0 = IOOBE",
                "need 0 12 0 0 = IOOBE", "need 12 12 0 0 = IOOBE");
        script.refused("no such package comes first, before the same ones", TWO,
                "need 2 2 0 0 = IOOBE", "need -1 -1 0 0 = IOOBE");
        script.refused("no such package comes first, before a range out of range", TWO,
                "need 2 0 -99 0 = IOOBE", "need 0 2 0 99 = IOOBE", "need 0 -1 1 0 = IOOBE");
    }

    private static void holding(Script script) {
        script.run("it holds at the least one", TWO, "need 0 1 2 9 = 1");
        script.run("it holds at the most", TWO, "need 0 1 -9 2 = 1");
        script.refused("it does not hold one below the least one", TWO, "need 0 1 3 9 = ISE", "need 0 1 3 3 = ISE");
        script.refused("it does not hold one above the most", TWO, "need 0 1 -9 1 = ISE", "need 0 1 1 1 = ISE");
        script.run("it is the version of the other one, less its own one", TWO,
                "need 1 0 2 2 = ISE; need 1 0 -2 -2 = 1; need 0 1 -2 -2 = ISE");
        script.refused("a range out of range comes first, before one that does not hold", TWO,
                "need 0 1 5 4 = IAE", "need 0 1 99 99 = IAE", "need 0 1 -99 0 = IAE", "need 0 1 3 99 = IAE");
        script.refused("not of a package to itself, though its version less itself is out of the range", TWO,
                "need 0 0 1 9 = IAE");
        script.run("it is told of the versions, not of the raises that are open", """
            pack 5 = 0
            pack 5 = 1
            raise 0 6 0 = 0
            need 0 1 -1 -1 = ISE
            need 0 1 0 0 = 1
            fails 0 = 1
            """);
        script.run("now is after a raise has landed", """
            pack 5 = 0
            pack 5 = 1
            raise 0 6 0 = 0
            approve 0 = 0
            land 0 1 = 1
            need 0 1 0 0 = ISE
            need 0 1 -1 -1 = 1
            """);
    }

    private static void howMany(Script script) {
        script.run("twenty of them", TWO, Script.each(1, 20, "need 0 1 2 2 = @"), "raise 0 8 0 = 0; fails 0 = 20");
        String full = TWO + Script.each(1, 20, "need 0 1 2 2 = @");
        script.refused("no twenty-first", full, "need 0 1 2 2 = ISE", "need 1 0 -98 98 = ISE");
        script.refused("no twenty-first, where a raise is open", full + "raise 0 8 0 = 0; fails 0 = 20",
                "need 0 1 -98 98 = ISE", "need 0 1 -1 -1 = ISE");
        script.refused("no twenty-first, that does not hold either", full, "need 0 1 0 0 = ISE");
        script.refused("a range out of range comes first, where there are twenty", full,
                "need 0 1 -99 98 = IAE", "need 0 1 2 1 = IAE", "need 0 1 2 99 = IAE", "need 1 1 0 0 = IAE");
        script.refused("no such package comes first, where there are twenty", full,
                "need 0 2 2 2 = IOOBE", "need 2 0 2 2 = IOOBE");
        script.run("a refused one is not counted", TWO,
                "need 0 1 3 9 = ISE; need 0 1 0 99 = IAE; need 0 2 0 0 = IOOBE; need 0 1 2 2 = 1; need 0 1 2 2 = 2");
    }
}
