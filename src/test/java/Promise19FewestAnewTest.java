public final class Promise19FewestAnewTest {

    public static void main(String[] args) {
        Script script = new Script("promise 19: fewestAnew");
        new FewestRuns(script, "fewestAnew").runAll();
        script.end();
    }
}
