public final class Promise20ToldTest {

    private static final String SEVEN = "pack 1 = 0; pack 1 = 1; raise 1 7 0 = 0;";

    public static void main(String[] args) {
        Script script = new Script("promise 20: told");
        texts(script);
        others(script);
        OfARaise first = new OfARaise(script, "told @ 0");
        first.noSuchRaise();
        first.notOpen();
        OfARaise behind = new OfARaise(script, "told @ 99");
        behind.noSuchRaise();
        behind.notOpen();
        at(script);
        script.end();
    }

    private static void texts(Script script) {
        script.run("its package, its version, two digits", SEVEN,
                "told 0 0 = 'B'; told 0 1 = '0'; told 0 2 = '7'; told 0 3 = 0");
        script.run("the first package", "pack 1 = 0; raise 0 42 0 = 0",
                "told 0 0 = 'A'; told 0 1 = '4'; told 0 2 = '2'; told 0 3 = 0");
        script.run("the twelfth package", Given.packs(12, 1), "raise 11 2 0 = 0; told 0 0 = 'L'");
        script.run("the least version", "pack 1 = 0; raise 0 2 0 = 0", "told 0 1 = '0'; told 0 2 = '2'");
        script.run("the greatest version of one digit", "pack 1 = 0; raise 0 9 0 = 0",
                "told 0 1 = '0'; told 0 2 = '9'");
        script.run("the least version of two digits", "pack 1 = 0; raise 0 10 0 = 0",
                "told 0 1 = '1'; told 0 2 = '0'");
        script.run("the greatest version", "pack 1 = 0; raise 0 99 0 = 0", "told 0 1 = '9'; told 0 2 = '9'");
        script.run("its version, not the one that the package has", "pack 31 = 0; raise 0 42 0 = 0",
                "told 0 1 = '4'; told 0 2 = '2'");
        script.run("of the fortieth", Given.FORTY,
                "told 39 0 = 'J'; told 39 1 = '0'; told 39 2 = '2'; told 39 3 = 0");
    }

    private static void others(Script script) {
        script.run("no other raise: no +", SEVEN, "told 0 3 = 0; told 0 4 = 0");
        script.run("one other raise: one +", Given.JOINED, """
            told 0 0 = 'A'
            told 2 0 = 'B'
            told 2 1 = '0'
            told 2 2 = '3'
            told 2 3 = '+'
            told 2 4 = 0
            told 0 3 = '+'
            told 0 4 = 0
            told 1 3 = 0
            """);
        script.run("two other raises: two +", Given.packs(3, 5), """
            need 0 1 0 0 = 1
            need 0 2 0 0 = 2
            patience 1 = 7
            raise 0 10 0 = 0
            raise 1 10 0 = 1
            raise 2 10 0 = 2
            pass 1 = 1
            raiseOf 0 6 = 3
            told 0 2 = '0'
            told 0 3 = '+'
            told 0 4 = '+'
            told 0 5 = 0
            """);
        script.run("nine other raises: nine +", Given.packs(10, 5), Script.each(1, 9, "need @ 0 0 0 = @"),
                "patience 1 = 7;",
                Script.each(0, 9, "raise @ 6 0 = @"), "pass 8 = 8; raiseOf 0 6 = 10;",
                Script.each(3, 11, "told 0 @ = '+'; told 9 @ = '+'"), "told 0 12 = 0; told 9 12 = 0");
        script.run("none any more, when the other one is closed", Given.JOINED, "close 0; told 2 3 = 0");
        script.run("none any more, when its group was parted", Given.JOINED,
                "approve 0 = 0; approve 2 = 0; land 0 0 = 2; told 0 3 = 0; told 2 3 = 0");
    }

    private static void at(Script script) {
        script.run("0 far behind the last one", SEVEN, "told 0 99 = 0; told 0 2147483646 = 0; told 0 2147483647 = 0");
        script.run("0 far behind the last one of a group", Given.JOINED, "told 0 5 = 0; told 0 2147483647 = 0");
        script.refused("nothing ahead of the first one", SEVEN, "told 0 -1 = IOOBE", "told 0 -2 = IOOBE",
                "told 0 -2147483648 = IOOBE");
        script.refused("both no such raise and nothing ahead of the first one", SEVEN, "told 1 -1 = IOOBE",
                "told -1 -1 = IOOBE", "told 2147483647 -2147483648 = IOOBE");
        script.refused("nothing ahead of the first one comes first, of one that is not OPEN", Given.ENDED,
                "told 0 -1 = IOOBE", "told 1 -1 = IOOBE", "told 2 -2147483648 = IOOBE");
    }
}
