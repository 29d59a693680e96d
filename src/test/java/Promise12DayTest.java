public final class Promise12DayTest {

    public static void main(String[] args) {
        Script script = new Script("promise 12: day");
        script.run("0 at first", "day = 0");
        script.run("1 more in a day that passes", "pass 1 = 1; day = 1; pass 1 = 2; day = 2");
        script.run("as many more as pass", "pass 41 = 41; day = 41; pass 100 = 141; day = 141");
        script.run("1000 at most", Script.each(1, 10, "pass 100 = @00; day = @00"), "pass 1 = ISE; day = 1000");
        script.run("the same after a refused pass", "pass 3 = 3; pass 0 = IAE; day = 3; pass 101 = IAE; day = 3");
        script.run("the same after the day would be above 1000",
                Script.each(1, 9, "pass 100 = @00"), "pass 99 = 999; pass 2 = ISE; day = 999; pass 100 = ISE;"
                + "day = 999");
        script.run("the same after all else", Given.JOINED,
                "approve 0 = 0; approve 2 = 0; land 0 1 = 2; close 1; freeze 1 0 9 = 1; patience 9 = 1;"
                + "trust 0 9 = 5; day = 1");
        script.end();
    }
}
