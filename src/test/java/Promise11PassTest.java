public final class Promise11PassTest {

    public static void main(String[] args) {
        Script script = new Script("promise 11: pass");
        script.run("returns the day then",
            """
            pass 1 = 1
            pass 100 = 101
            day = 101
            """);
        script.run("days out of range, or a day above 1000",
            Script.counted(1, 100, "pass 100"),
            """
            pass 100 = 200
            pass 100 = 300
            pass 100 = 400
            pass 100 = 500
            pass 100 = 600
            pass 100 = 700
            pass 100 = 800
            pass 100 = 900
            pass 99 = 999
            pass 0 = IAE
            pass 101 = IAE
            pass -1 = IAE
            pass 2147483647 = IAE
            pass 2 = ISE
            pass 100 = ISE
            day = 999
            pass 1 = 1000
            pass 1 = ISE
            pass 101 = IAE
            day = 1000
            """);
        script.run("with the lowest of those by which it goes, not with a lower one by which it does not",
            """
            pack 5 = 0
            pack 5 = 1
            pack 5 = 2
            need 0 1 0 0 = 1
            patience 1 = 7
            raise 2 6 0 = 0
            raise 0 6 0 = 1
            raise 1 6 0 = 2
            pass 1 = 1
            raiseOf 0 6 = 1
            raiseOf 1 6 = 2
            raiseOf 2 5 = 1
            fails 1 = 0
            """);
        script.run("one by which the fewest fail, if it goes by none; of several the lowest",
            """
            pack 5 = 0
            pack 5 = 1
            pack 5 = 2
            pack 5 = 3
            need 0 1 0 0 = 1
            need 0 2 0 0 = 2
            need 0 3 0 0 = 3
            need 0 3 0 1 = 4
            need 1 2 -9 9 = 5
            patience 1 = 7
            raise 0 6 0 = 0
            pass 1 = 1
            raise 1 6 0 = 1
            raise 2 6 0 = 2
            raise 3 7 0 = 3
            raise 2 7 0 = ISE
            patience 5 = 1
            raiseOf 0 6 = 1
            fails 0 = 4
            pass 4 = 5
            raiseOf 0 6 = 2
            raiseOf 1 5 = 0
            raiseOf 2 5 = 2
            raiseOf 3 5 = 3
            fails 0 = 3
            """);
        script.run("the one by which fewer fail goes before a lower one",
            """
            pack 5 = 0
            pack 5 = 1
            pack 5 = 2
            pack 5 = 3
            need 0 1 0 0 = 1
            need 0 2 0 0 = 2
            need 0 2 0 1 = 3
            need 0 3 0 0 = 4
            patience 3 = 7
            raise 0 6 0 = 0
            pass 2 = 2
            raise 1 6 0 = 1
            raise 2 6 0 = 2
            fails 0 = 4
            pass 1 = 3
            raiseOf 0 6 = 2
            raiseOf 2 5 = 0
            raiseOf 1 5 = 1
            fails 0 = 2
            """);
        script.run("with none, if by none fewer fail than by itself",
            """
            pack 5 = 0
            pack 5 = 1
            pack 5 = 2
            need 0 1 0 0 = 1
            patience 1 = 7
            raise 0 6 0 = 0
            raise 2 6 0 = 1
            pass 9 = 9
            raiseOf 0 6 = 1
            raise 1 7 0 = 2
            pass 1 = 10
            raiseOf 0 6 = 1
            raiseOf 2 6 = 1
            """);
        script.run("a group that goes is left alone, however old",
            """
            pack 5 = 0
            pack 5 = 1
            raise 0 6 0 = 0
            raise 1 6 0 = 1
            pass 100 = 100
            raiseOf 0 6 = 1
            raiseOf 1 6 = 1
            """);
        script.run("a group that another one was joined with is looked at no more on that day",
            """
            pack 5 = 0
            pack 5 = 1
            pack 5 = 2
            need 0 1 0 0 = 1
            need 0 1 0 1 = 2
            need 1 2 0 0 = 3
            patience 2 = 7
            raise 0 6 0 = 0
            raise 1 6 0 = 1
            pass 1 = 1
            raise 2 6 0 = 2
            fails 0 = 2
            fails 1 = 2
            fails 2 = 1
            pass 1 = 2
            raiseOf 0 6 = 2     # joined with 1, which would go with 2
            raiseOf 1 5 = 0
            raiseOf 2 6 = 1
            fails 1 = 1
            pass 1 = 3
            raiseOf 0 6 = 3
            fails 2 = 0
            """);
        script.run("each day begins anew: what was joined on one is looked at on the next",
            """
            pack 5 = 0
            pack 5 = 1
            pack 5 = 2
            need 0 1 0 0 = 1
            need 0 1 0 1 = 2
            need 1 2 0 0 = 3
            patience 2 = 7
            raise 0 6 0 = 0
            raise 1 6 0 = 1
            pass 1 = 1
            raise 2 6 0 = 2
            pass 2 = 3
            raiseOf 0 6 = 3
            """);
        script.run("a group that is joined itself may be joined by later ones on that day",
            """
            pack 5 = 0
            pack 5 = 1
            pack 5 = 2
            need 0 1 0 0 = 1
            need 0 1 0 1 = 2
            need 1 2 0 0 = 3
            patience 1 = 7
            raise 0 6 0 = 0
            raise 1 6 0 = 1
            raise 2 6 0 = 2
            pass 1 = 1
            raiseOf 0 6 = 3
            raiseOf 2 5 = 0
            fails 0 = 0
            """);
        script.run("looked at by rising lowest raises, as things are then",
            """
            pack 5 = 0
            pack 5 = 1
            pack 5 = 2
            need 0 1 0 0 = 1
            need 2 0 -1 9 = 2
            need 2 1 -1 9 = 3
            patience 1 = 7
            raise 0 6 0 = 0
            raise 1 6 0 = 1
            raise 2 7 0 = 2
            fails 2 = 2
            pass 1 = 1
            raiseOf 0 6 = 3
            raiseOf 2 5 = 0
            """);
        script.run("several days are days one by one",
            """
            pack 5 = 0
            pack 5 = 1
            pack 5 = 2
            need 0 1 0 0 = 1
            need 1 2 0 0 = 2
            patience 2 = 7
            raise 0 6 0 = 0
            raise 1 6 0 = 1
            raise 2 6 0 = 2
            pass 3 = 3
            raiseOf 0 6 = 3
            """);
        script.run("the age of a group is by its oldest raise",
            """
            pack 5 = 0
            pack 5 = 1
            pack 5 = 2
            need 0 1 0 0 = 1
            need 0 2 0 0 = 2
            patience 5 = 7
            raise 0 6 0 = 0
            pass 4 = 4
            raise 1 6 0 = 1
            pass 1 = 5
            raiseOf 0 6 = 2
            fails 0 = 1
            raise 2 6 0 = 2
            pass 1 = 6
            raiseOf 0 6 = 3
            """);
        script.run("joined raises of one reviewer: the higher one goes to another, and is not approved",
            Script.counted(8, 0, "pack 1"),
            """
            need 0 6 0 0 = 1
            patience 1 = 7
            raise 0 2 0 = 0
            raise 1 2 0 = 1
            raise 2 2 0 = 2
            raise 3 2 0 = 3
            raise 4 2 0 = 4
            raise 5 2 0 = 5
            raise 6 2 0 = 6
            raiseOf 6 3 = 0
            close 3
            approve 0 = 0
            approve 6 = 0
            pass 1 = 1
            raiseOf 6 5 = 0
            raiseOf 0 3 = 0
            raiseOf 0 4 = 1
            raiseOf 6 3 = 3
            raiseOf 6 4 = 0
            canLand 0 = 0
            approve 6 = 0
            canLand 0 = 1
            """);
        script.run("a raise without a reviewer is given to one, when its group is joined",
            """
            pack 5 = 0
            pack 5 = 1
            need 0 1 0 0 = 1
            patience 3 = 7
            raise 0 6 7 = 0
            raise 1 6 7 = 1
            trust 4 7 = 5
            raiseOf 0 3 = -1
            pass 2 = 2
            raiseOf 0 3 = -1
            pass 1 = 3
            raiseOf 0 6 = 2
            raiseOf 0 3 = 4
            raiseOf 1 3 = -1
            approve 0 = 0
            approve 1 = ISE
            canLand 0 = 0
            """);
        script.run("one who reviews a higher raise of the group may not have a lower one",
            """
            pack 5 = 0
            pack 5 = 1
            need 0 1 0 0 = 1
            patience 1 = 7
            raise 0 6 7 = 0
            trust 2 7 = 5
            raise 1 6 7 = 1
            raiseOf 1 3 = 2
            approve 1 = 0
            pass 1 = 1
            raiseOf 0 6 = 2
            raiseOf 0 3 = -1
            raiseOf 1 3 = 2
            raiseOf 1 4 = 1
            """);
        script.end();
    }
}
