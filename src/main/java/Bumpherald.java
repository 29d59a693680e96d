/**
 * A bot that raises packages: see README.md for how to use it.
 *
 * The face below tests what it is given and throws; the classes inside hold
 * the state and are only ever called with what has been tested.
 */
public final class Bumpherald {

    public static final int NONE = -1;
    public static final int OPEN = 0, DONE = 1, FAILED = 2, CLOSED = 3;

    private static final int LAST_DAY = 1000;
    private static final int MOST_DAYS = 100;
    private static final int MOST_PATIENCE = 100;
    private static final int FIRST_PATIENCE = 7;
    private static final int MOST_VERSION = 99;
    private static final int MOST_GAP = 98;
    private static final int MOST_PACKAGES = 12;
    private static final int ALL_PACKAGES = 4095;
    private static final int MOST_NEEDS = 20;
    private static final int MOST_FREEZES = 10;
    private static final int MOST_RAISES = 40;
    private static final int MOST_OPEN = 10;
    private static final int MOST_RISK = 9;
    private static final int REVIEWERS = 6;
    private static final int MOST_TRUST = 9;
    private static final int FIRST_TRUST = 5;

    private static final int WHAT_STATE = 0;
    private static final int WHAT_PACKAGE = 1;
    private static final int WHAT_VERSION = 2;
    private static final int WHAT_REVIEWER = 3;
    private static final int WHAT_APPROVED = 4;
    private static final int WHAT_LOWEST = 5;
    private static final int WHAT_SIZE = 6;

    private final Packages packages;
    private final Freezes freezes;
    private final Raises raises;
    private final Reviewers reviewers;
    private final Herding herding;
    private int today;

    public Bumpherald() {
        packages = new Packages();
        freezes = new Freezes();
        raises = new Raises(packages);
        reviewers = new Reviewers(raises);
        herding = new Herding(raises, reviewers);
        today = 0;
    }

    // ---- packages, reviewers, freezes

    public int pack(int version) throws IllegalArgumentException, IllegalStateException {
        if (!isWithin(version, 1, MOST_VERSION)) {
            throw new IllegalArgumentException("no such version");
        }
        if (packages.count >= MOST_PACKAGES) {
            throw new IllegalStateException("no more packages");
        }
        return packages.add(version);
    }

    public int need(int one, int other, int least, int most)
            throws IndexOutOfBoundsException, IllegalArgumentException, IllegalStateException {
        checkPackage(one);
        checkPackage(other);
        if (one == other || !isWithin(least, -MOST_GAP, MOST_GAP) || !isWithin(most, least, MOST_GAP)) {
            throw new IllegalArgumentException("no such need");
        }
        if (!isWithin(packages.versions[other] - packages.versions[one], least, most)) {
            throw new IllegalStateException("the need does not hold now");
        }
        if (packages.needCount >= MOST_NEEDS) {
            throw new IllegalStateException("no more needs");
        }
        return packages.addNeed(one, other, least, most);
    }

    public int trust(int reviewer, int trust) throws IndexOutOfBoundsException, IllegalArgumentException {
        checkReviewer(reviewer);
        if (!isWithin(trust, 0, MOST_TRUST)) {
            throw new IllegalArgumentException("no such trust");
        }
        int before = reviewers.trusts[reviewer];
        reviewers.trusts[reviewer] = trust;
        return before;
    }

    public int patience(int days) throws IllegalArgumentException {
        if (!isWithin(days, 1, MOST_PATIENCE)) {
            throw new IllegalArgumentException("no such patience");
        }
        int before = herding.patience;
        herding.patience = days;
        return before;
    }

    public int freeze(int packages, int from, int to) throws IllegalArgumentException, IllegalStateException {
        if (!isWithin(packages, 1, ALL_PACKAGES) || !isWithin(from, 0, LAST_DAY) || !isWithin(to, from, LAST_DAY)) {
            throw new IllegalArgumentException("no such freeze");
        }
        if (freezes.count >= MOST_FREEZES) {
            throw new IllegalStateException("no more freezes");
        }
        return freezes.add(packages, from, to);
    }

    // ---- raises

    public int raise(int pack, int version, int risk)
            throws IndexOutOfBoundsException, IllegalArgumentException, IllegalStateException {
        checkPackage(pack);
        if (!isWithin(version, 1, MOST_VERSION) || !isWithin(risk, 0, MOST_RISK)) {
            throw new IllegalArgumentException("no such version or risk");
        }
        if (version <= packages.versions[pack]) {
            throw new IllegalArgumentException("the version is not greater");
        }
        if (raises.bitOfPackage(pack) != 0 || raises.openCount >= MOST_OPEN || raises.count >= MOST_RAISES) {
            throw new IllegalStateException("no more raises");
        }
        int raise = raises.add(pack, version, risk, today);
        reviewers.giveAnew(raises.bitOf(raise));
        return raise;
    }

    public boolean approve(int raise) throws IndexOutOfBoundsException, IllegalStateException {
        checkOpen(raise);
        if (raises.reviewers[raise] == NONE) {
            throw new IllegalStateException("the raise has no reviewer");
        }
        boolean before = raises.approved[raise];
        raises.approved[raise] = true;
        return before;
    }

    public int land(int raise, boolean passes) throws IndexOutOfBoundsException, IllegalStateException {
        checkOpen(raise);
        int group = raises.groupOf(raise);
        if (!isLandable(group)) {
            throw new IllegalStateException("the group cannot land");
        }
        int size = Integer.bitCount(group);
        if (passes) {
            raises.release(group);
        } else if (size == 1) {
            raises.end(raise, FAILED);
        } else {
            herding.part(group);
        }
        return size;
    }

    public void close(int raise) throws IndexOutOfBoundsException, IllegalStateException {
        checkOpen(raise);
        herding.leave(raise);
    }

    public int pass(int days) throws IllegalArgumentException, IllegalStateException {
        if (!isWithin(days, 1, MOST_DAYS)) {
            throw new IllegalArgumentException("no such number of days");
        }
        if (today + days > LAST_DAY) {
            throw new IllegalStateException("no more days");
        }
        for (int i = 0; i < days; i++) {
            today++;
            herding.joinSleepers(today);
        }
        return today;
    }

    // ---- what is asked

    public int day() {
        return today;
    }

    public int version(int pack) throws IndexOutOfBoundsException {
        checkPackage(pack);
        return packages.versions[pack];
    }

    public int raiseOf(int raise, int what) throws IndexOutOfBoundsException, IllegalArgumentException {
        checkRaise(raise);
        switch (what) {
            case WHAT_STATE:
                return raises.states[raise];
            case WHAT_PACKAGE:
                return raises.packs[raise];
            case WHAT_VERSION:
                return raises.versions[raise];
            case WHAT_REVIEWER:
                return raises.reviewers[raise];
            case WHAT_APPROVED:
                return raises.approved[raise] ? 1 : 0;
            case WHAT_LOWEST:
                return raises.groups[raise];
            case WHAT_SIZE:
                return Integer.bitCount(raises.groupOf(raise));
            default:
                throw new IllegalArgumentException("nothing to tell");
        }
    }

    public int fails(int raise) throws IndexOutOfBoundsException, IllegalStateException {
        checkOpen(raise);
        return raises.failing(raises.groupOf(raise));
    }

    public boolean canLand(int raise) throws IndexOutOfBoundsException, IllegalStateException {
        checkOpen(raise);
        return isLandable(raises.groupOf(raise));
    }

    public int load(int reviewer) throws IndexOutOfBoundsException {
        checkReviewer(reviewer);
        return reviewers.loadWithout(reviewer, NONE);
    }

    public int fewest(int raise) throws IndexOutOfBoundsException, IllegalStateException {
        checkOpen(raise);
        return Fewest.byNeeds(raises, raises.bitOf(raise));
    }

    public int fewestAnew(int raise) throws IndexOutOfBoundsException, IllegalStateException {
        checkOpen(raise);
        return Fewest.byAllSets(raises, raises.bitOf(raise));
    }

    public char told(int raise, int at) throws IndexOutOfBoundsException, IllegalStateException {
        // Before the raise: no such raise is the same exception, and one that is not open a later one.
        if (at < 0) {
            throw new IndexOutOfBoundsException("no such sign");
        }
        checkOpen(raise);
        if (at == 0) {
            return (char) ('A' + raises.packs[raise]);
        }
        if (at == 1) {
            return (char) ('0' + raises.versions[raise] / 10);
        }
        if (at == 2) {
            return (char) ('0' + raises.versions[raise] % 10);
        }
        int others = Integer.bitCount(raises.groupOf(raise)) - 1;
        return at < 3 + others ? '+' : (char) 0;
    }

    // ---- what the face tests

    private static boolean isWithin(int number, int least, int most) {
        return number >= least && number <= most;
    }

    private void checkPackage(int pack) {
        if (!isWithin(pack, 0, packages.count - 1)) {
            throw new IndexOutOfBoundsException("no such package");
        }
    }

    private void checkReviewer(int reviewer) {
        if (!isWithin(reviewer, 0, REVIEWERS - 1)) {
            throw new IndexOutOfBoundsException("no such reviewer");
        }
    }

    private void checkRaise(int raise) {
        if (!isWithin(raise, 0, raises.count - 1)) {
            throw new IndexOutOfBoundsException("no such raise");
        }
    }

    private void checkOpen(int raise) {
        checkRaise(raise);
        if (raises.states[raise] != OPEN) {
            throw new IllegalStateException("the raise is not open");
        }
    }

    private boolean isLandable(int group) {
        return raises.failing(group) == 0
                && raises.areApproved(group)
                && !freezes.isFrozen(raises.packagesOf(group), today);
    }

    /** The packages' versions, the needs between them, and a plan of versions to try needs on. */
    private static final class Packages {
        final int[] versions = new int[MOST_PACKAGES];
        final int[] planned = new int[MOST_PACKAGES];
        final int[] needOnes = new int[MOST_NEEDS];
        final int[] needOthers = new int[MOST_NEEDS];
        final int[] needLeasts = new int[MOST_NEEDS];
        final int[] needMosts = new int[MOST_NEEDS];
        int count = 0;
        int needCount = 0;

        int add(int version) {
            versions[count] = version;
            count++;
            return count - 1;
        }

        int addNeed(int one, int other, int least, int most) {
            needOnes[needCount] = one;
            needOthers[needCount] = other;
            needLeasts[needCount] = least;
            needMosts[needCount] = most;
            needCount++;
            return needCount;
        }

        void startPlan() {
            for (int pack = 0; pack < count; pack++) {
                planned[pack] = versions[pack];
            }
        }

        int failingInPlan() {
            int failing = 0;
            for (int need = 0; need < needCount; need++) {
                if (!holdsInPlan(need)) {
                    failing++;
                }
            }
            return failing;
        }

        int firstFailingInPlan() {
            for (int need = 0; need < needCount; need++) {
                if (!holdsInPlan(need)) {
                    return need;
                }
            }
            return NONE;
        }

        private boolean holdsInPlan(int need) {
            int gap = planned[needOthers[need]] - planned[needOnes[need]];
            return isWithin(gap, needLeasts[need], needMosts[need]);
        }
    }

    /** The freezes, each from its first day to its last one, both in it. */
    private static final class Freezes {
        final int[] sets = new int[MOST_FREEZES];
        final int[] firstDays = new int[MOST_FREEZES];
        final int[] lastDays = new int[MOST_FREEZES];
        int count = 0;

        int add(int set, int from, int to) {
            sets[count] = set;
            firstDays[count] = from;
            lastDays[count] = to;
            count++;
            return count;
        }

        boolean isFrozen(int set, int today) {
            for (int i = 0; i < count; i++) {
                if ((sets[i] & set) != 0 && isWithin(today, firstDays[i], lastDays[i])) {
                    return true;
                }
            }
            return false;
        }
    }

    /**
     * The raises. A set of open raises is an int, with a bit for each by its
     * place among all that are open: so groups are unions of bits, as the
     * fewest are that the face answers.
     */
    private static final class Raises {
        final Packages packages;
        final int[] packs = new int[MOST_RAISES];
        final int[] versions = new int[MOST_RAISES];
        final int[] risks = new int[MOST_RAISES];
        final int[] days = new int[MOST_RAISES];
        final int[] states = new int[MOST_RAISES];
        final int[] reviewers = new int[MOST_RAISES];
        final boolean[] approved = new boolean[MOST_RAISES];
        /** The lowest raise of the group of each, NONE if it is not open. */
        final int[] groups = new int[MOST_RAISES];
        /** The raises that are open, by rising numbers. */
        final int[] open = new int[MOST_OPEN];
        int count = 0;
        int openCount = 0;

        Raises(Packages packages) {
            this.packages = packages;
        }

        int add(int pack, int version, int risk, int today) {
            int raise = count;
            packs[raise] = pack;
            versions[raise] = version;
            risks[raise] = risk;
            days[raise] = today;
            states[raise] = OPEN;
            reviewers[raise] = NONE;
            approved[raise] = false;
            groups[raise] = raise;
            count++;
            listOpen();
            return raise;
        }

        /** Its reviewer and approval stay as they are: they are told of it later on. */
        void end(int raise, int state) {
            states[raise] = state;
            groups[raise] = NONE;
            listOpen();
        }

        private void listOpen() {
            openCount = 0;
            for (int raise = 0; raise < count; raise++) {
                if (states[raise] == OPEN && openCount < MOST_OPEN) {
                    open[openCount] = raise;
                    openCount++;
                }
            }
        }

        boolean isIn(int place, int set) {
            return (set >> place & 1) != 0;
        }

        int bitOf(int raise) {
            for (int place = 0; place < openCount; place++) {
                if (open[place] == raise) {
                    return 1 << place;
                }
            }
            return 0;
        }

        int bitOfPackage(int pack) {
            for (int place = 0; place < openCount; place++) {
                if (packs[open[place]] == pack) {
                    return 1 << place;
                }
            }
            return 0;
        }

        /** Empty for a raise that is not open. */
        int groupOf(int raise) {
            int set = 0;
            for (int place = 0; place < openCount; place++) {
                if (groups[open[place]] == groups[raise]) {
                    set |= 1 << place;
                }
            }
            return set;
        }

        /** Makes one group of a set. */
        void group(int set) {
            int lowest = NONE;
            for (int place = 0; place < openCount; place++) {
                if (isIn(place, set)) {
                    lowest = lowest == NONE ? open[place] : lowest;
                    groups[open[place]] = lowest;
                }
            }
        }

        boolean areApproved(int set) {
            for (int place = 0; place < openCount; place++) {
                if (isIn(place, set) && !approved[open[place]]) {
                    return false;
                }
            }
            return true;
        }

        int packagesOf(int set) {
            int found = 0;
            for (int place = 0; place < openCount; place++) {
                if (isIn(place, set)) {
                    found |= 1 << packs[open[place]];
                }
            }
            return found;
        }

        /** Gives the packages of a set their new versions, for good. */
        void release(int set) {
            int left = set;
            // By falling places: the places below one stay as they are when it ends.
            for (int place = openCount - 1; place >= 0; place--) {
                if (isIn(place, left)) {
                    int raise = open[place];
                    packages.versions[packs[raise]] = versions[raise];
                    end(raise, DONE);
                }
            }
        }

        int failing(int set) {
            plan(set);
            return packages.failingInPlan();
        }

        int firstFailing(int set) {
            plan(set);
            return packages.firstFailingInPlan();
        }

        private void plan(int set) {
            packages.startPlan();
            for (int place = 0; place < openCount; place++) {
                if (isIn(place, set)) {
                    packages.planned[packs[open[place]]] = versions[open[place]];
                }
            }
        }
    }

    /** The reviewers, and how raises are given to them. */
    private static final class Reviewers {
        final Raises raises;
        final int[] trusts = new int[REVIEWERS];

        Reviewers(Raises raises) {
            this.raises = raises;
            for (int reviewer = 0; reviewer < REVIEWERS; reviewer++) {
                trusts[reviewer] = FIRST_TRUST;
            }
        }

        int loadWithout(int reviewer, int raise) {
            int load = 0;
            for (int place = 0; place < raises.openCount; place++) {
                int other = raises.open[place];
                if (other != raise && raises.reviewers[other] == reviewer) {
                    load++;
                }
            }
            return load;
        }

        /** Gives each raise of a set that has no reviewer of its own in its group. */
        void giveAnew(int set) {
            for (int place = 0; place < raises.openCount; place++) {
                int raise = raises.open[place];
                if (raises.isIn(place, set) && !hasOwnReviewer(raise)) {
                    give(raise, bestFor(raise));
                }
            }
        }

        private boolean hasOwnReviewer(int raise) {
            int reviewer = raises.reviewers[raise];
            return reviewer != NONE && !reviewsAnother(reviewer, raise, raise);
        }

        /** Whether a reviewer has, of the group of a raise, another one below a bound. */
        private boolean reviewsAnother(int reviewer, int raise, int bound) {
            for (int place = 0; place < raises.openCount; place++) {
                int other = raises.open[place];
                if (other != raise && other < bound
                        && raises.groups[other] == raises.groups[raise]
                        && raises.reviewers[other] == reviewer) {
                    return true;
                }
            }
            return false;
        }

        private int bestFor(int raise) {
            int best = NONE;
            int bestLoad = MOST_OPEN + 1;
            for (int reviewer = 0; reviewer < REVIEWERS; reviewer++) {
                int load = loadWithout(reviewer, raise);
                if (load < bestLoad && trusts[reviewer] >= raises.risks[raise]
                        && !reviewsAnother(reviewer, raise, MOST_RAISES)) {
                    best = reviewer;
                    bestLoad = load;
                }
            }
            return best;
        }

        private void give(int raise, int reviewer) {
            if (raises.reviewers[raise] != reviewer) {
                raises.reviewers[raise] = reviewer;
                raises.approved[raise] = false;
            }
        }
    }

    /** How groups come together and part. */
    private static final class Herding {
        final Raises raises;
        final Reviewers reviewers;
        /** The lowest raises of the groups that are still to be looked at on a day. */
        final boolean[] waiting = new boolean[MOST_RAISES];
        int patience = FIRST_PATIENCE;

        Herding(Raises raises, Reviewers reviewers) {
            this.raises = raises;
            this.reviewers = reviewers;
        }

        void joinSleepers(int today) {
            for (int raise = 0; raise < raises.count; raise++) {
                waiting[raise] = raises.groups[raise] == raise;
            }
            for (int raise = 0; raise < raises.count; raise++) {
                if (waiting[raise] && sleepsTooLong(raise, today)) {
                    join(raise, bestPartner(raise));
                }
            }
        }

        private boolean sleepsTooLong(int lowest, int today) {
            // The lowest raise of a group is its oldest one: numbers rise with the days.
            return today - raises.days[lowest] >= patience
                    && raises.failing(raises.groupOf(lowest)) != 0;
        }

        private void join(int lowest, int partner) {
            if (partner == NONE) {
                return;
            }
            waiting[partner] = false;
            int joined = raises.groupOf(lowest) | raises.groupOf(partner);
            raises.group(joined);
            reviewers.giveAnew(joined);
        }

        /**
         * The first group with which the fewest needs fail is also the first
         * one by which it goes, if there is one: then none fail.
         */
        private int bestPartner(int lowest) {
            int group = raises.groupOf(lowest);
            int best = NONE;
            int fewestFailing = raises.failing(group);
            for (int raise = 0; raise < raises.count; raise++) {
                if (raise != lowest && raises.groups[raise] == raise) {
                    int failing = raises.failing(group | raises.groupOf(raise));
                    if (failing < fewestFailing) {
                        best = raise;
                        fewestFailing = failing;
                    }
                }
            }
            return best;
        }

        void part(int group) {
            for (int place = 0; place < raises.openCount; place++) {
                if (raises.isIn(place, group)) {
                    raises.group(1 << place);
                    raises.approved[raises.open[place]] = false;
                }
            }
            reviewers.giveAnew(group);
        }

        void leave(int raise) {
            int mate = mateOf(raise);
            raises.group(raises.groupOf(raise) & ~raises.bitOf(raise));
            raises.end(raise, CLOSED);
            if (mate != NONE) {
                reviewers.giveAnew(raises.groupOf(mate));
            }
        }

        /** Another raise of its group: places shift when one ends, numbers do not. */
        private int mateOf(int raise) {
            for (int place = 0; place < raises.openCount; place++) {
                int other = raises.open[place];
                if (other != raise && raises.groups[other] == raises.groups[raise]) {
                    return other;
                }
            }
            return NONE;
        }
    }

    /** The fewest raises that go together, in two ways. */
    private static final class Fewest {

        /**
         * Without raises the versions are always right, so a need that fails
         * is of a raise in the set already, and asks for that of its other
         * package: no set can do without it, and there are never several.
         */
        static int byNeeds(Raises raises, int bit) {
            int set = bit;
            for (int i = 0; i < MOST_OPEN; i++) {
                int need = raises.firstFailing(set);
                if (need == NONE) {
                    return set;
                }
                int asked = raises.bitOfPackage(raises.packages.needOnes[need])
                        | raises.bitOfPackage(raises.packages.needOthers[need]);
                if ((asked | set) == set) {
                    return NONE;
                }
                set |= asked;
            }
            return NONE;
        }

        static int byAllSets(Raises raises, int bit) {
            int found = NONE;
            int size = MOST_OPEN + 1;
            // By rising numbers, and only fewer ones are taken: of several the lowest stays.
            for (int set = 0; set < 1 << raises.openCount; set++) {
                if ((set & bit) != 0 && Integer.bitCount(set) < size && raises.failing(set) == 0) {
                    found = set;
                    size = Integer.bitCount(set);
                }
            }
            return found;
        }
    }
}
