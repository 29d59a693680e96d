public final class Promise04TrustTest {

    public static void main(String[] args) {
        Script script = new Script("promise 4: trust");
        script.run("it is told what it was",
                "trust 2 9 = 5; trust 2 0 = 9; trust 2 3 = 0; trust 2 3 = 3; trust 2 5 = 3");
        script.run("it is 5 at first, for each", Script.each(0, 5, "trust @ 9 = 5"));
        script.run("of one reviewer alone", "trust 2 9 = 5; trust 1 5 = 5; trust 3 5 = 5; trust 2 5 = 9");
        script.run("the least reviewer", "trust 0 8 = 5; trust 0 8 = 8");
        script.run("the greatest reviewer", "trust 5 8 = 5; trust 5 8 = 8");
        script.refused("no reviewer below the least", "", "trust -1 5 = IOOBE", "trust -2147483648 5 = IOOBE");
        script.refused("no reviewer above the greatest", "", "trust 6 5 = IOOBE", "trust 2147483647 5 = IOOBE");
        script.run("the least trust", "trust 1 0 = 5; trust 1 5 = 0");
        script.run("the greatest trust", "trust 1 9 = 5; trust 1 5 = 9");
        script.refused("no trust below the least", "", "trust 0 -1 = IAE", "trust 5 -1 = IAE",
                "trust 0 -2147483648 = IAE");
        script.refused("no trust above the greatest", "", "trust 0 10 = IAE", "trust 5 10 = IAE",
                "trust 0 2147483647 = IAE");
        script.refused("no such reviewer comes first", "", "trust -1 -1 = IOOBE", "trust 6 10 = IOOBE",
                "trust 6 -1 = IOOBE");
        script.refused("a refused one leaves what was told before", "trust 1 8 = 5", "trust 1 10 = IAE",
                "trust 1 -1 = IAE",
                "trust 6 1 = IOOBE");
        giving(script);
        script.end();
    }

    private static void giving(Script script) {
        script.run("a trust as great as the risk is enough",
                "pack 1 = 0; trust 3 8 = 5; raise 0 2 8 = 0; raiseOf 0 3 = 3");
        script.run("a trust one below the risk is not",
                "pack 1 = 0; trust 3 7 = 5; raise 0 2 8 = 0; raiseOf 0 3 = -1");
        script.run("the greatest trust is enough for the greatest risk",
                "pack 1 = 0; trust 5 9 = 5; raise 0 2 9 = 0; raiseOf 0 3 = 5");
        script.run("the greatest trust but one is not",
                "pack 1 = 0; trust 5 8 = 5; raise 0 2 9 = 0; raiseOf 0 3 = -1");
        script.run("the least trust is enough for the least risk",
                "pack 1 = 0; trust 0 0 = 5; raise 0 2 0 = 0; raiseOf 0 3 = 0");
        script.run("the least trust is not enough for the least risk but one",
                "pack 1 = 0", Script.each(0, 5, "trust @ 0 = 5"), "raise 0 2 1 = 0; raiseOf 0 3 = -1");
        script.run("what has been given stays so, and approved", """
            pack 1 = 0
            pack 1 = 1
            raise 0 2 5 = 0
            approve 0 = 0
            trust 0 0 = 5
            raiseOf 0 3 = 0
            raiseOf 0 4 = 1
            load 0 = 1
            canLand 0 = 1
            """);
        script.run("what has been given stays so, and can be approved", """
            pack 1 = 0
            raise 0 2 5 = 0
            trust 0 0 = 5
            approve 0 = 0
            land 0 1 = 1
            """);
        script.run("what has been given stays so, when its group is joined", Given.packs(2, 5), """
            need 0 1 0 0 = 1
            patience 1 = 7
            raise 0 6 5 = 0
            raise 1 6 5 = 1
            approve 0 = 0
            trust 0 0 = 5
            trust 1 0 = 5
            pass 1 = 1
            raiseOf 0 6 = 2
            raiseOf 0 3 = 0
            raiseOf 0 4 = 1
            raiseOf 1 3 = 1
            """);
        script.run("what is given from now on goes by the new one", """
            pack 1 = 0
            pack 1 = 1
            raise 0 2 5 = 0
            trust 0 0 = 5
            close 0
            raise 0 2 5 = 1
            raiseOf 1 3 = 1
            raise 1 2 0 = 2
            raiseOf 2 3 = 0
            """);
        script.run("a raise without a reviewer is not given to one by it", """
            pack 1 = 0
            raise 0 2 6 = 0
            trust 2 6 = 5
            raiseOf 0 3 = -1
            approve 0 = ISE
            pass 9 = 9
            raiseOf 0 3 = -1
            """);
    }
}
