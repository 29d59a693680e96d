public final class Promise05PatienceTest {

    public static void main(String[] args) {
        Script script = new Script("promise 5: patience");
        script.run("returns what it was",
            """
            patience 1 = 7
            patience 100 = 1
            patience 7 = 100
            """);
        script.run("days out of range",
            """
            patience 0 = IAE
            patience 101 = IAE
            patience -7 = IAE
            patience 2147483647 = IAE
            patience 7 = 7
            """);
        script.run("a group as old as the patience is joined, a younger one is not",
            """
            pack 5 = 0
            pack 5 = 1
            need 0 1 0 0 = 1
            patience 3 = 7
            raise 0 6 0 = 0
            raise 1 6 0 = 1
            pass 2 = 2
            raiseOf 0 6 = 1
            pass 1 = 3
            raiseOf 0 6 = 2
            """);
        script.run("at first 7",
            """
            pack 5 = 0
            pack 5 = 1
            need 0 1 0 0 = 1
            raise 0 6 0 = 0
            raise 1 6 0 = 1
            pass 6 = 6
            raiseOf 0 6 = 1
            pass 1 = 7
            raiseOf 0 6 = 2
            """);
        script.end();
    }
}
