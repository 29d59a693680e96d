public final class Promise05PatienceTest {

    /** Two packages that need each other at the same version, and a raise of each. */
    private static final String SLEEPERS = """
        pack 5 = 0
        pack 5 = 1
        need 0 1 0 0 = 1
        raise 0 6 0 = 0
        raise 1 6 0 = 1
        """;

    public static void main(String[] args) {
        Script script = new Script("promise 5: patience");
        script.run("it is told what it was", "patience 3 = 7; patience 50 = 3; patience 50 = 50; patience 7 = 50");
        script.run("it is 7 at first", "patience 8 = 7");
        script.run("the least", "patience 1 = 7; patience 7 = 1");
        script.run("the greatest", "patience 100 = 7; patience 7 = 100");
        script.refused("none below the least", SLEEPERS, "patience 0 = IAE", "patience -1 = IAE",
                "patience -2147483648 = IAE");
        script.refused("none above the greatest", SLEEPERS, "patience 101 = IAE", "patience 1000 = IAE",
                "patience 2147483647 = IAE");
        script.refused("a refused one leaves what was told before", "patience 3 = 7;" + SLEEPERS,
                "patience 0 = IAE", "patience 101 = IAE");
        joining(script);
        script.end();
    }

    private static void joining(Script script) {
        script.run("at first, a group is not joined on day 6, and is on day 7", SLEEPERS,
                "pass 6 = 6; raiseOf 0 6 = 1; pass 1 = 7; raiseOf 0 6 = 2");
        script.run("the least: joined on day 1", "patience 1 = 7;", SLEEPERS,
                "raiseOf 0 6 = 1; pass 1 = 1; raiseOf 0 6 = 2");
        script.run("one more than the least: not on day 1, but on day 2", "patience 2 = 7;", SLEEPERS,
                "pass 1 = 1; raiseOf 0 6 = 1; pass 1 = 2; raiseOf 0 6 = 2");
        script.run("the greatest: not on day 99, but on day 100", "patience 100 = 7;", SLEEPERS,
                "pass 99 = 99; raiseOf 0 6 = 1; pass 1 = 100; raiseOf 0 6 = 2");
        script.run("it joins nothing by itself, but on the next day", SLEEPERS,
                "pass 6 = 6; patience 1 = 7; raiseOf 0 6 = 1; pass 1 = 7; raiseOf 0 6 = 2");
        script.run("more days than the patience are enough", SLEEPERS,
                "patience 100 = 7; pass 50 = 50; patience 3 = 100; raiseOf 0 6 = 1; pass 1 = 51; raiseOf 0 6 = 2");
        script.run("a greater one keeps a group from being joined", SLEEPERS,
                "pass 6 = 6; patience 8 = 7; pass 1 = 7; raiseOf 0 6 = 1; pass 1 = 8; raiseOf 0 6 = 2");
        script.run("a greater one parts nothing", SLEEPERS,
                "pass 7 = 7; patience 100 = 7; pass 1 = 8; raiseOf 0 6 = 2");
    }
}
