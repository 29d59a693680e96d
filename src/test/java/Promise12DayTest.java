public final class Promise12DayTest {

    public static void main(String[] args) {
        Script script = new Script("promise 12: day");
        script.run("the day",
            """
            day = 0
            pass 1 = 1
            day = 1
            pass 41 = 42
            day = 42
            pass 0 = IAE
            day = 42
            """);
        script.end();
    }
}
