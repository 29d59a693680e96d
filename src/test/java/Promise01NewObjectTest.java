public final class Promise01NewObjectTest {

    public static void main(String[] args) {
        Script script = new Script("promise 1: a new object");
        script.run("no packages and raises, the day 0",
            """
            day = 0
            version 0 = IOOBE
            raiseOf 0 0 = IOOBE
            fails 0 = IOOBE
            told 0 0 = IOOBE
            load 0 = 0
            load 5 = 0
            """);
        script.run("the first numbers are 0, trust is 5 and the patience 7",
            """
            pack 1 = 0
            raise 0 2 5 = 0
            trust 0 5 = 5
            trust 5 5 = 5
            patience 7 = 7
            day = 0
            """);
        script.run("no needs and no freezes",
            """
            pack 1 = 0
            pack 1 = 1
            need 0 1 0 0 = 1
            freeze 1 0 0 = 1
            """);
        script.end();
    }
}
