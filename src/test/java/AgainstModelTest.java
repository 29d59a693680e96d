/** Long runs of calls, made by a fixed rule, on the program and on the model: all answers must be the same. */
public final class AgainstModelTest {

    private static final int RUNS = 1500;
    private static final int MOST_CALLS = 512;
    private static final int[] ODD = {Integer.MIN_VALUE, -99, -98, -1, 0, 1, 5, 6, 9, 10, 11, 12, 39, 40, 98, 99, 100,
        101, 1000, 1001, 4095, 4096, Integer.MAX_VALUE};

    private final StringBuilder story = new StringBuilder();
    private final Bumpherald bot = new Bumpherald();
    private final Model model = new Model();
    private long seed;
    private int calls = 0;
    private boolean same = true;

    private AgainstModelTest(int run) {
        seed = 77L * run + 12345;
    }

    public static void main(String[] args) {
        long calls = 0;
        int wrong = 0;
        for (int run = 0; run < RUNS && wrong < 5; run++) {
            AgainstModelTest test = new AgainstModelTest(run);
            test.play();
            calls += test.calls;
            wrong += test.same ? 0 : 1;
        }
        System.out.println("against the model: " + calls + " calls, " + wrong + " runs wrong");
        if (wrong != 0) {
            System.exit(1);
        }
    }

    // ---- a run

    private void play() {
        begin();
        boolean isOdd = below(4) == 0;
        while (same && calls < 380) {
            if (isOdd && below(6) == 0) {
                odd();
            } else {
                step();
            }
        }
        for (int raise = 0; same && calls < MOST_CALLS; raise = (raise + 1) % 40) {
            look(raise);
        }
    }

    private void begin() {
        int packs = 1 + below(12);
        int spread = 1 + below(4);
        for (int i = 0; i < packs; i++) {
            call("pack", 3 + below(spread));
        }
        int needs = below(21);
        for (int i = 0; i < needs; i++) {
            need(below(packs), below(packs));
        }
        int trusting = below(3);
        for (int i = 0; i < 6 && trusting > 0; i++) {
            call("trust", i, trusting == 1 ? below(10) : 9);
        }
        call("patience", 1 + below(8));
    }

    private void need(int one, int other) {
        int gap = peek("version", other) - peek("version", one);
        int least = Math.max(-98, gap - below(3));
        call("need", one, other, least, Math.min(98, gap + below(3)));
    }

    private void step() {
        int packs = packs();
        switch (below(24)) {
            case 0, 1, 2, 3, 4, 5, 6 -> raise(below(packs));
            case 7, 8 -> call("approve", anyRaise());
            case 9, 10 -> landWhole(openRaise());
            case 11 -> call("land", anyRaise(), below(2));
            case 12 -> call("close", below(3) == 0 ? openRaise() : anyRaise());
            case 13, 14, 15, 16 -> call("pass", 1 + below(below(6) == 0 ? 30 : 4));
            case 17 -> rule(packs);
            default -> look(below(3) == 0 ? anyRaise() : openRaise());
        }
    }

    private void raise(int pack) {
        int version = Math.min(99, peek("version", pack) + below(4));
        call("raise", pack, version, below(3) == 0 ? below(10) : below(6));
    }

    private void landWhole(int raise) {
        int lowest = peek("raiseOf", raise, 5);
        int size = peek("raiseOf", raise, 6);
        for (int mate = 0; size > 0 && mate < 40; mate++) {
            if (lowest >= 0 && peek("raiseOf", mate, 5) == lowest) {
                call("approve", mate);
            }
        }
        call("canLand", raise);
        call("land", raise, below(2));
    }

    private void rule(int packs) {
        switch (below(6)) {
            case 0 -> call("trust", below(6), below(10));
            case 1 -> call("patience", 1 + below(10));
            case 2 -> {
                int from = Math.min(1000, peek("day") + below(5));
                call("freeze", 1 + below(4095), from, Math.min(1000, from + below(4)));
            }
            case 3 -> call("pack", 1 + below(9));
            default -> need(below(packs), below(packs));
        }
    }

    private void look(int raise) {
        switch (below(8)) {
            case 0 -> call("fails", raise);
            case 1 -> call("canLand", raise);
            case 2 -> call("load", below(6));
            case 3 -> call("fewest", raise);
            case 4 -> call("fewestAnew", raise);
            case 5 -> call("told", raise, below(7));
            case 6 -> call("raiseOf", raise, below(7));
            default -> call("version", below(packs()));
        }
    }

    private void odd() {
        switch (below(19)) {
            case 0 -> call("pack", oddNumber());
            case 1 -> call("need", mild(12), mild(12), mild(99), mild(99));
            case 2 -> call("trust", mild(6), mild(10));
            case 3 -> call("patience", oddNumber());
            case 4 -> call("freeze", oddNumber(), mild(50), mild(50));
            case 5, 6 -> call("raise", mild(12), mild(100), mild(10));
            case 7 -> call("approve", oddNumber());
            case 8 -> call("land", oddNumber(), below(2));
            case 9 -> call("close", oddNumber());
            case 10 -> call("pass", oddNumber());
            case 11 -> call("version", oddNumber());
            case 12 -> call("raiseOf", mild(40), oddNumber());
            case 13 -> call("fails", oddNumber());
            case 14 -> call("canLand", oddNumber());
            case 15 -> call("load", oddNumber());
            case 16 -> call("fewest", oddNumber());
            case 17 -> call("fewestAnew", oddNumber());
            default -> call("told", mild(40), oddNumber());
        }
    }

    // ---- choosing

    /** The numbers come from a fixed rule, so that each run of the test is the same. */
    private int below(int bound) {
        seed = seed * 6364136223846793005L + 1442695040888963407L;
        return (int) ((seed >>> 33) % bound);
    }

    private int oddNumber() {
        return ODD[below(ODD.length)];
    }

    private int mild(int bound) {
        return below(3) == 0 ? oddNumber() : below(bound);
    }

    private int packs() {
        int packs = 0;
        while (packs < 12 && isNumber(Calls.answer(model, "version", packs))) {
            packs++;
        }
        return packs;
    }

    private int anyRaise() {
        int raises = 0;
        while (raises < 40 && isNumber(Calls.answer(model, "raiseOf", raises, 0))) {
            raises++;
        }
        return below(raises + 1);
    }

    private int openRaise() {
        int chosen = anyRaise();
        for (int tries = 0; tries < 6 && peek("raiseOf", chosen, 0) != Bumpherald.OPEN; tries++) {
            chosen = anyRaise();
        }
        return chosen;
    }

    private int peek(String name, int... given) {
        String told = Calls.answer(model, name, given);
        return isNumber(told) ? Integer.parseInt(told) : -2;
    }

    private static boolean isNumber(String told) {
        return told.matches("-?\\d+");
    }

    // ---- calling

    private void call(String name, int... given) {
        if (!same || calls == MOST_CALLS) {
            return;
        }
        calls++;
        String due = Calls.answer(model, name, given);
        String got = Calls.answer(bot, name, given);
        story.append(name);
        for (int number : given) {
            story.append(' ').append(number);
        }
        story.append(" = ").append(got).append('\n');
        if (!got.equals(due)) {
            same = false;
            System.out.println(story + "but due is " + due + "\n");
        }
    }
}
