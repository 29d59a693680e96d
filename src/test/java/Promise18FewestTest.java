public final class Promise18FewestTest {

    public static void main(String[] args) {
        Script script = new Script("promise 18: fewest");
        new FewestRuns(script, "fewest").runAll();
        script.end();
    }
}
