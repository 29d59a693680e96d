public final class Promise16CanLandTest {

    private static final String READY = Given.JOINED + "approve 0 = 0; approve 2 = 0;";

    public static void main(String[] args) {
        Script script = new Script("promise 16: canLand");
        script.run("one alone that goes, is approved and not frozen",
                "pack 1 = 0; raise 0 2 0 = 0; approve 0 = 0; canLand 0 = 1");
        script.run("a group, by each of its raises", READY, "canLand 0 = 1; canLand 2 = 1; canLand 1 = 0");
        script.run("not if none is approved", Given.JOINED, "canLand 0 = 0; canLand 2 = 0; canLand 1 = 0");
        script.run("not if the lower one alone is approved", Given.JOINED,
                "approve 0 = 0; canLand 0 = 0; canLand 2 = 0");
        script.run("not if the higher one alone is approved", Given.JOINED,
                "approve 2 = 0; canLand 0 = 0; canLand 2 = 0");
        script.run("not if one need fails", Given.packs(2, 5),
                "need 0 1 0 0 = 1; raise 0 6 0 = 0; approve 0 = 0; fails 0 = 1; canLand 0 = 0");
        script.run("not if one need of twenty fails", Given.packs(2, 5), Script.each(1, 19, "need 0 1 -98 98 = @"),
                "need 0 1 0 0 = 20; raise 0 6 0 = 0; approve 0 = 0; canLand 0 = 0");
        script.run("though the raises of others are neither approved nor go", Given.packs(3, 5),
                "need 0 1 0 0 = 1; raise 0 6 0 = 0; raise 2 6 0 = 1; approve 1 = 0; canLand 0 = 0; canLand 1 = 1");
        script.run("not if a freeze is of one of its packages today", READY, """
            freeze 4 0 1000 = 1
            canLand 0 = 1
            freeze 2 2 3 = 2
            canLand 0 = 1
            pass 1 = 2
            canLand 0 = 0
            canLand 2 = 0
            pass 1 = 3
            canLand 0 = 0
            pass 1 = 4
            canLand 0 = 1
            """);
        script.run("not after it was parted", READY,
                "land 0 0 = 2; canLand 0 = 0; canLand 2 = 0; approve 0 = 0; canLand 0 = 0");
        script.run("what is left of it, if it goes and is approved", Given.packs(2, 5), """
            need 0 1 0 9 = 1
            patience 1 = 7
            raise 0 6 0 = 0
            raise 1 6 0 = 1
            pass 1 = 1
            approve 1 = 0
            canLand 1 = 0
            close 0
            canLand 1 = 1
            """);
        script.run("the fortieth", Given.FORTY, "canLand 39 = 0; approve 39 = 0; canLand 39 = 1");
        OfARaise calls = new OfARaise(script, "canLand @");
        calls.noSuchRaise();
        calls.notOpen();
        script.end();
    }
}
