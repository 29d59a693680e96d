public final class Promise01NewObjectTest {

    public static void main(String[] args) {
        Script script = new Script("promise 1: a new object");
        script.run("no packages", "version 0 = IOOBE; need 0 1 0 0 = IOOBE; raise 0 2 0 = IOOBE; pack 1 = 0");
        script.run("no raises", """
            raiseOf 0 0 = IOOBE
            approve 0 = IOOBE
            land 0 1 = IOOBE
            close 0 = IOOBE
            fails 0 = IOOBE
            canLand 0 = IOOBE
            fewest 0 = IOOBE
            fewestAnew 0 = IOOBE
            told 0 0 = IOOBE
            pack 1 = 0
            raise 0 2 0 = 0
            """);
        script.run("the day 0", "day = 0");
        script.run("no needs", "pack 1 = 0; pack 1 = 1; need 0 1 0 0 = 1");
        script.run("no freezes", "freeze 1 0 0 = 1");
        script.run("nobody has a raise", Script.each(0, 5, "load @ = 0"));
        script.run("each trust is 5", Script.each(0, 5, "trust @ 5 = 5"));
        script.run("the patience is 7", "patience 7 = 7");
        script.run("the 512th call is answered as any other one", "pack 1 = 0; raise 0 2 0 = 0",
                Script.each(1, 100, "pass 1 = @; day = @; load 0 = 1; fewestAnew 0 = 1; raiseOf 0 5 = 0"),
                Script.each(1, 8, "fails 0 = 0"),
                "approve 0 = 0; land 0 1 = 1");
        oneObjectIsNotAnother(script);
        script.end();
    }

    private static void oneObjectIsNotAnother(Script script) {
        Bumpherald used = new Bumpherald();
        Bumpherald other = new Bumpherald();
        script.runOn(used, "what one is told", """
            pack 1 = 0
            pack 1 = 1
            need 0 1 0 0 = 1
            trust 0 9 = 5
            patience 1 = 7
            freeze 1 0 0 = 1
            raise 0 2 9 = 0
            pass 1 = 1
            """);
        script.runOn(other, "another one has not been told", """
            day = 0
            version 0 = IOOBE
            raiseOf 0 0 = IOOBE
            load 0 = 0
            trust 0 5 = 5
            patience 7 = 7
            freeze 1 0 0 = 1
            """);
        script.runOn(used, "and one keeps it", "day = 1; raiseOf 0 3 = 0; patience 1 = 1; freeze 1 0 0 = 2");
        script.runOn(new Bumpherald(), "nor has a later one", "day = 0; version 0 = IOOBE; patience 7 = 7");
    }
}
