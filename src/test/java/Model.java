import java.util.ArrayList;
import java.util.Comparator;
import java.util.HashSet;
import java.util.List;
import java.util.Set;

/** The document once more, as plainly as the whole library allows: what the program is held against. */
final class Model {

    private static final class Change {
        int number, pack, version, risk, born, state, reviewer = -1;
        boolean approved;
        List<Change> group = new ArrayList<>();
    }

    private record Need(int one, int other, int least, int most) {
    }

    private record Freeze(int set, int from, int to) {
    }

    private final List<Integer> versions = new ArrayList<>();
    private final List<Need> needs = new ArrayList<>();
    private final List<Freeze> freezes = new ArrayList<>();
    private final List<Change> changes = new ArrayList<>();
    private final int[] trusts = {5, 5, 5, 5, 5, 5};
    private int patience = 7;
    private int today = 0;

    int pack(int version) {
        argument(version >= 1 && version <= 99);
        state(versions.size() < 12);
        versions.add(version);
        return versions.size() - 1;
    }

    int need(int one, int other, int least, int most) {
        index(one, versions.size());
        index(other, versions.size());
        argument(one != other);
        argument(least >= -98 && least <= 98);
        argument(most >= least && most <= 98);
        Need need = new Need(one, other, least, most);
        state(holds(need, versions));
        state(needs.size() < 20);
        needs.add(need);
        return needs.size();
    }

    int trust(int reviewer, int trust) {
        index(reviewer, 6);
        argument(trust >= 0 && trust <= 9);
        int was = trusts[reviewer];
        trusts[reviewer] = trust;
        return was;
    }

    int patience(int days) {
        argument(days >= 1 && days <= 100);
        int was = patience;
        patience = days;
        return was;
    }

    int freeze(int packages, int from, int to) {
        argument(packages >= 1 && packages <= 4095);
        argument(from >= 0 && from <= 1000);
        argument(to >= from && to <= 1000);
        state(freezes.size() < 10);
        freezes.add(new Freeze(packages, from, to));
        return freezes.size();
    }

    int raise(int pack, int version, int risk) {
        index(pack, versions.size());
        argument(version >= 1 && version <= 99);
        argument(risk >= 0 && risk <= 9);
        argument(version > versions.get(pack));
        for (Change c : open()) {
            state(c.pack != pack);
        }
        state(open().size() < 10);
        state(changes.size() < 40);
        Change made = new Change();
        made.number = changes.size();
        made.pack = pack;
        made.version = version;
        made.risk = risk;
        made.born = today;
        made.group.add(made);
        changes.add(made);
        review(List.of(made));
        return made.number;
    }

    boolean approve(int raise) {
        Change c = openOne(raise);
        state(c.reviewer >= 0);
        boolean was = c.approved;
        c.approved = true;
        return was;
    }

    int land(int raise, boolean passes) {
        List<Change> group = openOne(raise).group;
        state(lands(group));
        int size = group.size();
        if (passes) {
            for (Change c : group) {
                versions.set(c.pack, c.version);
                c.state = 1;
            }
        } else if (size == 1) {
            group.get(0).state = 2;
        } else {
            for (Change c : group) {
                c.group = new ArrayList<>(List.of(c));
                c.approved = false;
            }
            review(group);
        }
        return size;
    }

    void close(int raise) {
        Change c = openOne(raise);
        c.state = 3;
        List<Change> rest = c.group;
        rest.remove(c);
        c.group = new ArrayList<>();
        review(rest);
    }

    int pass(int days) {
        argument(days >= 1 && days <= 100);
        state(today + days <= 1000);
        for (int i = 0; i < days; i++) {
            dawn();
        }
        return today;
    }

    int day() {
        return today;
    }

    int version(int pack) {
        index(pack, versions.size());
        return versions.get(pack);
    }

    int raiseOf(int raise, int what) {
        index(raise, changes.size());
        argument(what >= 0 && what <= 6);
        Change c = changes.get(raise);
        boolean isOpen = c.state == 0;
        int[] all = {c.state, c.pack, c.version, c.reviewer, c.approved ? 1 : 0,
            isOpen ? lowest(c.group) : -1, isOpen ? c.group.size() : 0};
        return all[what];
    }

    int fails(int raise) {
        return failing(openOne(raise).group);
    }

    boolean canLand(int raise) {
        return lands(openOne(raise).group);
    }

    int load(int reviewer) {
        index(reviewer, 6);
        return (int) open().stream().filter(c -> c.reviewer == reviewer).count();
    }

    int fewest(int raise) {
        return least(openOne(raise));
    }

    int fewestAnew(int raise) {
        return least(openOne(raise));
    }

    char told(int raise, int at) {
        index(raise, changes.size());
        index(at, Integer.MAX_VALUE);
        Change c = openOne(raise);
        String text = String.format("%c%02d%s", 'A' + c.pack, c.version, "+".repeat(c.group.size() - 1));
        return at < text.length() ? text.charAt(at) : 0;
    }

    // ---- inside

    private static void argument(boolean right) {
        if (!right) {
            throw new IllegalArgumentException();
        }
    }

    private static void state(boolean right) {
        if (!right) {
            throw new IllegalStateException();
        }
    }

    private static void index(int number, int bound) {
        if (number < 0 || number >= bound && bound != Integer.MAX_VALUE) {
            throw new IndexOutOfBoundsException();
        }
    }

    private Change openOne(int raise) {
        index(raise, changes.size());
        state(changes.get(raise).state == 0);
        return changes.get(raise);
    }

    private List<Change> open() {
        return changes.stream().filter(c -> c.state == 0).toList();
    }

    private static int lowest(List<Change> group) {
        return group.stream().mapToInt(c -> c.number).min().getAsInt();
    }

    private static boolean holds(Need need, List<Integer> versions) {
        int gap = versions.get(need.other) - versions.get(need.one);
        return need.least <= gap && gap <= need.most;
    }

    private int failing(List<Change> set) {
        List<Integer> then = new ArrayList<>(versions);
        set.forEach(c -> then.set(c.pack, c.version));
        return (int) needs.stream().filter(n -> !holds(n, then)).count();
    }

    private boolean lands(List<Change> group) {
        for (Freeze f : freezes) {
            for (Change c : group) {
                if ((f.set & 1 << c.pack) != 0 && f.from <= today && today <= f.to) {
                    return false;
                }
            }
        }
        return failing(group) == 0 && group.stream().allMatch(c -> c.approved);
    }

    private void review(List<Change> those) {
        for (Change c : those.stream().sorted(Comparator.comparing(c -> c.number)).toList()) {
            boolean doubled = c.group.stream().anyMatch(o -> o.number < c.number && o.reviewer == c.reviewer);
            if (c.reviewer < 0 || doubled) {
                int chosen = chosenFor(c);
                if (chosen != c.reviewer) {
                    c.approved = false;
                }
                c.reviewer = chosen;
            }
        }
    }

    private int chosenFor(Change c) {
        int chosen = -1;
        long chosenLoad = 0;
        for (int i = 0; i < 6; i++) {
            int reviewer = i;
            long load = open().stream().filter(o -> o != c && o.reviewer == reviewer).count();
            boolean taken = c.group.stream().anyMatch(o -> o != c && o.reviewer == reviewer);
            if (trusts[i] >= c.risk && !taken && (chosen < 0 || load < chosenLoad)) {
                chosen = i;
                chosenLoad = load;
            }
        }
        return chosen;
    }

    private List<List<Change>> groups() {
        List<List<Change>> found = new ArrayList<>();
        for (Change c : open()) {
            if (lowest(c.group) == c.number) {
                found.add(c.group);
            }
        }
        return found;
    }

    private void dawn() {
        today++;
        Set<Change> settled = new HashSet<>();
        for (List<Change> group : groups()) {
            int born = group.stream().mapToInt(c -> c.born).min().getAsInt();
            boolean met = group.stream().anyMatch(settled::contains);
            if (!met && failing(group) > 0 && today - born >= patience) {
                joinOne(group, settled);
            }
        }
    }

    private void joinOne(List<Change> group, Set<Change> settled) {
        List<Change> partner = null;
        for (List<Change> other : groups()) {
            if (other != group && partner == null && failing(union(group, other)) == 0) {
                partner = other;
            }
        }
        if (partner == null) {
            int fewest = failing(group);
            for (List<Change> other : groups()) {
                if (other != group && failing(union(group, other)) < fewest) {
                    fewest = failing(union(group, other));
                    partner = other;
                }
            }
        }
        if (partner != null) {
            List<Change> joined = union(group, partner);
            settled.addAll(joined);
            joined.forEach(c -> c.group = joined);
            review(joined);
        }
    }

    private static List<Change> union(List<Change> a, List<Change> b) {
        List<Change> both = new ArrayList<>(a);
        both.addAll(b);
        return both;
    }

    private int least(Change wanted) {
        List<Change> open = open();
        List<Integer> right = new ArrayList<>();
        for (int bits = 0; bits < 1 << open.size(); bits++) {
            int set = bits;
            List<Change> chosen = open.stream().filter(c -> (set >> open.indexOf(c) & 1) == 1).toList();
            if (chosen.contains(wanted) && failing(chosen) == 0) {
                right.add(bits);
            }
        }
        return right.stream()
                .min(Comparator.comparing((Integer s) -> Integer.bitCount(s)).thenComparing(s -> s))
                .orElse(-1);
    }
}
