import java.util.ArrayList;
import java.util.List;

/**
 * Calls by which two objects can be told apart, whatever differs in them. Each
 * probe is for two objects of its own: it may change them.
 */
final class Probes {

    private Probes() {
    }

    /** For objects that have had some calls: up to one raise beyond those that were made. */
    static List<List<Line>> after(List<Line> first) {
        int raises = 0;
        for (Line line : first) {
            raises += line.name().equals("raise") && !line.isRefused() ? 1 : 0;
        }
        List<List<Line>> probes = new ArrayList<>();
        probes.add(Line.all(numbers(), Script.each(0, raises, "fails @; canLand @; fewest @; fewestAnew @")));
        probes.add(Line.all(all(raises)));
        probes.add(Line.all(Script.each(0, raises, "told @ 0; told @ 1; told @ 2; told @ 3; told @ 4")));
        probes.add(Line.all(rules(), "fails " + raises + "; fails " + (raises + 1)));
        probes.add(Line.all("pass 1;", moving(raises), "pass 1;", moving(raises)));
        probes.add(Line.all("pass 100;", moving(raises)));
        probes.add(Line.all(Script.each(0, raises, "approve @"), Script.each(0, raises, "land @ 1"), numbers()));
        probes.add(Line.all(Script.each(0, raises, "approve @"), Script.each(0, raises, "land @ 0"), moving(raises)));
        probes.add(Line.all(Script.each(0, raises, "close @"), moving(raises), numbers()));
        return probes;
    }

    private static String numbers() {
        return "day;" + Script.each(0, 12, "version @") + Script.each(0, 5, "load @");
    }

    private static String all(int raises) {
        StringBuilder lines = new StringBuilder();
        for (int what = 0; what <= 6; what++) {
            lines.append(Script.each(0, raises, "raiseOf @ " + what));
        }
        return lines.toString();
    }

    /** What of raises can change. */
    private static String moving(int raises) {
        return Script.each(0, raises, "raiseOf @ 0; raiseOf @ 3; raiseOf @ 4; raiseOf @ 5");
    }

    /** What there is, told by making one more; and what was, told by putting another in its place. */
    private static String rules() {
        return Script.each(0, 5, "trust @ 4") + """
            patience 6
            freeze 4095 1000 1000
            pack 50
            need 0 1 -98 98
            need 1 0 -98 98
            raise 0 99 9
            raise 1 99 4
            pass 100
            """;
    }
}
