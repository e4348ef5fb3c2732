/**
 * Things that are held by hands and by one another, and counts of that which gossips tell late.
 * The document DOC.md says what each call does; its numbered promises are not repeated here.
 */
public final class GossipCounts {
    public static final int NONE = -1;

    private static final int MOST_THINGS = 24;
    private static final int HANDS = 4;
    private static final int SLOTS = 4;
    private static final int PLACES = HANDS + SLOTS * MOST_THINGS;
    private static final int GOSSIPS = 3;
    private static final int SETTINGS = 5;
    private static final int PROOFS = 3;
    private static final int TRIAL_EVERY = 4;

    private static final int MOST_RANK = 9;
    private static final int MOST_DELAY = 20;
    private static final int MOST_BETWEEN_TRIALS = 50;
    private static final int MOST_TICKS = 100;
    private static final int LAST_TIME = 5000;
    private static final int LOWEST_CODE = 33;
    private static final int HIGHEST_CODE = 126;
    private static final int MOST_CODES = 60;
    private static final int MOST_SAVED = 6;

    private static final int FARTHEST_END = 200;
    private static final int BEARS_TICKS = 30;
    private static final int MOST_SLANDERS = 12;
    private static final int DIGEST_TICKS = 20;

    // 512 calls make two reports each at most, 24 ends four each, bears() twelve more.
    private static final int MOST_REPORTS = 1200;

    private static final int NUMBER = 0;
    private static final int ABOUT = 1;
    private static final int BY = 2;
    private static final int DUE = 3;
    private static final int FALSE = 4;
    private static final int PARTS = 5;

    private static final int BY_COUNT = 1;
    private static final int IN_TRIAL = 2;

    private static final int THING_PROPERTIES = 13;
    private static final int COUNTS = 14;

    private final World now;
    private final World ahead;
    private final World slandered;
    private final World[] saved;
    private int savedStates;
    private final Text text;

    public GossipCounts() {
        now = new World();
        ahead = new World();
        slandered = new World();
        saved = new World[MOST_SAVED];
        for (int i = 0; i < MOST_SAVED; i++) {
            saved[i] = new World();
        }
        text = new Text();
    }

    // ---- things and what holds them

    public int add(int rank) throws IllegalArgumentException, IllegalStateException {
        if (rank < 0 || rank > MOST_RANK) {
            throw new IllegalArgumentException("a rank is 0 to 9");
        }
        if (now.things >= MOST_THINGS) {
            throw new IllegalStateException("there are 24 things");
        }
        save();
        return now.bring(rank);
    }

    public int take(int hand, int thing) throws IndexOutOfBoundsException, IllegalStateException {
        if (!isHand(hand) || !isThingOrNone(thing)) {
            throw new IndexOutOfBoundsException("no such hand or thing");
        }
        if (!now.mayBeHeld(thing)) {
            throw new IllegalStateException("the thing has ended");
        }
        save();
        return now.change(hand, thing);
    }

    public int put(int thing, int slot, int other) throws IndexOutOfBoundsException, IllegalStateException {
        if (!isThing(thing) || !isSlot(slot) || !isThingOrNone(other)) {
            throw new IndexOutOfBoundsException("no such thing, slot or other");
        }
        if (!now.lives(thing) || !now.mayBeHeld(other)) {
            throw new IllegalStateException("the thing or the other one has ended");
        }
        save();
        return now.change(placeOf(thing, slot), other);
    }

    public int slander(int thing, int by)
            throws IndexOutOfBoundsException, IllegalArgumentException, IllegalStateException {
        if (!isThing(thing)) {
            throw new IndexOutOfBoundsException("no such thing");
        }
        if (by != -1 && by != 1) {
            throw new IllegalArgumentException("a report is of -1 or 1");
        }
        if (!now.lives(thing)) {
            throw new IllegalStateException("the thing has ended");
        }
        save();
        return now.lie(thing, by);
    }

    public int suspect(int thing) throws IndexOutOfBoundsException, IllegalStateException {
        if (!isThing(thing)) {
            throw new IndexOutOfBoundsException("no such thing");
        }
        if (!now.lives(thing) || isIn(now.suspects, thing)) {
            throw new IllegalStateException("the thing has ended or is a suspect");
        }
        save();
        now.suspects |= 1 << thing;
        return Integer.bitCount(now.suspects);
    }

    public int set(int setting, int value) throws IndexOutOfBoundsException, IllegalArgumentException {
        if (!isSetting(setting)) {
            throw new IndexOutOfBoundsException("no such setting");
        }
        if (value < 0 || value > mostOf(setting)) {
            throw new IllegalArgumentException("the value is out of range");
        }
        save();
        int before = now.settings[setting];
        now.settings[setting] = value;
        return before;
    }

    // ---- time and trials

    public int pass(int ticks) throws IllegalArgumentException, IllegalStateException {
        if (ticks < 1 || ticks > MOST_TICKS) {
            throw new IllegalArgumentException("1 to 100 ticks pass");
        }
        if (now.time + ticks > LAST_TIME) {
            throw new IllegalStateException("the time would be above 5000");
        }
        save();
        return now.passTicks(ticks);
    }

    public int trial() {
        save();
        return now.holdTrial();
    }

    public int audit() {
        save();
        return now.setCountsRight();
    }

    // ---- texts

    public int append(int code) throws IllegalArgumentException, IllegalStateException {
        if (code < LOWEST_CODE || code > HIGHEST_CODE) {
            throw new IllegalArgumentException("a code is 33 to 126");
        }
        if (text.length >= MOST_CODES) {
            throw new IllegalStateException("the buffer has 60 characters");
        }
        text.codes[text.length] = code;
        text.length++;
        return text.length;
    }

    public int clearBuffer() {
        int before = text.length;
        text.length = 0;
        return before;
    }

    public int firstError() {
        return text.errorAt();
    }

    public int run() throws IllegalArgumentException {
        if (!text.isProgram()) {
            throw new IllegalArgumentException("the buffer is not a complete program");
        }
        save();
        text.toBegin();
        int done = 0;
        while (done < MOST_CODES && text.readStep() && doStep()) {
            done++;
        }
        text.length = 0;
        return done;
    }

    public int undo() throws IllegalStateException {
        if (savedStates <= 0) {
            throw new IllegalStateException("no state is saved");
        }
        savedStates--;
        now.copyFrom(saved[savedStates]);
        return savedStates;
    }

    // ---- looks

    public int thing(int thing, int what) throws IndexOutOfBoundsException, IllegalArgumentException {
        if (!isThing(thing)) {
            throw new IndexOutOfBoundsException("no such thing");
        }
        if (what < 0 || what >= THING_PROPERTIES) {
            throw new IllegalArgumentException("a property is 0 to 12");
        }
        return now.property(thing, what);
    }

    public int slot(int thing, int slot) throws IndexOutOfBoundsException {
        if (!isThing(thing) || !isSlot(slot)) {
            throw new IndexOutOfBoundsException("no such thing or slot");
        }
        return now.holdings.at(placeOf(thing, slot));
    }

    public int hand(int hand) throws IndexOutOfBoundsException {
        if (!isHand(hand)) {
            throw new IndexOutOfBoundsException("no such hand");
        }
        return now.holdings.at(hand);
    }

    public int report(int place, int what) throws IndexOutOfBoundsException, IllegalArgumentException {
        if (place < 0 || place >= now.reports.underWay()) {
            throw new IndexOutOfBoundsException("not so many reports are under way");
        }
        if (what < 0 || what >= PARTS) {
            throw new IllegalArgumentException("a part is 0 to 4");
        }
        return now.reports.part(place, what);
    }

    public int ended(int end) throws IndexOutOfBoundsException {
        if (end < 0 || end >= now.ends || end >= MOST_THINGS) {
            throw new IndexOutOfBoundsException("there were not so many ends");
        }
        return now.endOrder[end];
    }

    public int count(int what) throws IllegalArgumentException {
        if (what < 0 || what >= COUNTS) {
            throw new IllegalArgumentException("a number is 0 to 13");
        }
        return what == COUNTS - 1 ? savedStates : now.total(what);
    }

    public int setting(int setting) throws IndexOutOfBoundsException {
        if (!isSetting(setting)) {
            throw new IndexOutOfBoundsException("no such setting");
        }
        return now.settings[setting];
    }

    // ---- what would be; nothing is changed, and the limit of 5000 ticks does not matter

    public int ifPassed(int ticks, int what) throws IllegalArgumentException {
        if (ticks < 1 || ticks > MOST_TICKS || what < 0 || what > 3) {
            throw new IllegalArgumentException("1 to 100 ticks, and 0 to 3");
        }
        foresee(ticks);
        return passedPart(what);
    }

    public int endsIn(int thing) throws IndexOutOfBoundsException {
        if (!isThing(thing)) {
            throw new IndexOutOfBoundsException("no such thing");
        }
        foresee(FARTHEST_END);
        return foreseenEnd(thing);
    }

    public int ifTried(int what) throws IllegalArgumentException {
        if (what < 0 || what > 2) {
            throw new IllegalArgumentException("0 to 2");
        }
        foreseeTrial();
        return triedPart(what);
    }

    public int ring(int thing) throws IndexOutOfBoundsException {
        if (!isThing(thing)) {
            throw new IndexOutOfBoundsException("no such thing");
        }
        return now.holdings.ringOf(thing);
    }

    public int bestCut(int what) throws IllegalArgumentException {
        if (what != 0 && what != 1) {
            throw new IllegalArgumentException("0 or 1");
        }
        int best = now.holdings.cutWithMostLost();
        if (what == 0) {
            return best;
        }
        return best == NONE ? 0 : now.holdings.lostWithout(best);
    }

    public int bears(int thing) throws IndexOutOfBoundsException {
        if (!isThing(thing)) {
            throw new IndexOutOfBoundsException("no such thing");
        }
        return slandersToEnd(thing);
    }

    public double reachedShare() {
        int living = now.total(2);
        return living == 0 ? 0.0 : (double) now.total(3) / (double) living;
    }

    public long digest() {
        long hash = 2389L;
        for (int what = 0; what < COUNTS; what++) {
            hash = mixed(hash, count(what));
        }
        for (int i = 0; i < SETTINGS; i++) {
            hash = mixed(hash, now.settings[i]);
        }
        for (int hand = 0; hand < HANDS; hand++) {
            hash = mixed(hash, now.holdings.at(hand));
        }
        // One look ahead serves all things: each bears the time of its end there.
        foresee(FARTHEST_END);
        hash = withThings(hash);
        hash = withReportsAndEnds(hash);
        foresee(DIGEST_TICKS);
        hash = withPassed(hash);
        foreseeTrial();
        hash = withTried(hash);
        hash = withBestCut(hash);
        if (now.things > 0) {
            hash = mixed(hash, slandersToEnd(0));
        }
        hash = mixed(hash, bitsOf(reachedShare()));
        hash = mixed(hash, text.length);
        for (int i = 0; i < text.length && i < MOST_CODES; i++) {
            hash = mixed(hash, text.codes[i]);
        }
        return hash;
    }

    // ---- the parts of the digest

    private static long mixed(long hash, long value) {
        return 31L * hash + value;
    }

    private long withThings(long hash) {
        long result = hash;
        for (int thing = 0; thing < now.things && thing < MOST_THINGS; thing++) {
            for (int what = 0; what < THING_PROPERTIES; what++) {
                result = mixed(result, now.property(thing, what));
            }
            for (int slot = 0; slot < SLOTS; slot++) {
                result = mixed(result, now.holdings.at(placeOf(thing, slot)));
            }
            result = mixed(result, now.holdings.ringOf(thing));
            result = mixed(result, foreseenEnd(thing));
        }
        return result;
    }

    private long withReportsAndEnds(long hash) {
        long result = hash;
        for (int place = 0; place < now.reports.underWay(); place++) {
            for (int what = 0; what < PARTS; what++) {
                result = mixed(result, now.reports.part(place, what));
            }
        }
        for (int end = 0; end < now.ends && end < MOST_THINGS; end++) {
            result = mixed(result, now.endOrder[end]);
        }
        return result;
    }

    private long withPassed(long hash) {
        long result = hash;
        for (int what = 0; what <= 3; what++) {
            result = mixed(result, passedPart(what));
        }
        return result;
    }

    private long withTried(long hash) {
        long result = hash;
        for (int what = 0; what <= 2; what++) {
            result = mixed(result, triedPart(what));
        }
        return result;
    }

    private long withBestCut(long hash) {
        int best = now.holdings.cutWithMostLost();
        long result = mixed(hash, best);
        return mixed(result, best == NONE ? 0 : now.holdings.lostWithout(best));
    }

    /** Double.doubleToLongBits is not in the language's library; a share is 0 to 1, so scaling it is exact. */
    private static long bitsOf(double share) {
        if (share <= 0.0) {
            return 0L;
        }
        double scaled = share;
        long exponent = 1023L;
        for (int n = 0; n < 64 && scaled < 1.0; n++) {
            scaled = scaled * 2.0;
            exponent--;
        }
        long fraction = (long) ((scaled - 1.0) * 4503599627370496.0);
        return (exponent << 52) + fraction;
    }

    // ---- looking ahead

    private void foresee(int ticks) {
        ahead.copyFrom(now);
        ahead.passTicks(ticks);
    }

    private int passedPart(int what) {
        switch (what) {
            case 0:
                return ahead.ends - now.ends;
            case 1:
                return Integer.bitCount(ahead.wronged) - Integer.bitCount(now.wronged);
            case 2:
                return ahead.reports.underWay();
            default:
                return Integer.bitCount(ahead.living & ~ahead.holdings.reached());
        }
    }

    private int foreseenEnd(int thing) {
        if (!now.lives(thing)) {
            return 0;
        }
        return ahead.lives(thing) ? NONE : ahead.endTimes[thing] - now.time;
    }

    private void foreseeTrial() {
        ahead.copyFrom(now);
        ahead.holdTrial();
    }

    private int triedPart(int what) {
        switch (what) {
            case 0:
                return ahead.ends - now.ends;
            case 1:
                return Integer.bitCount(ahead.suspects);
            default:
                return Integer.bitCount(ahead.wronged) - Integer.bitCount(now.wronged);
        }
    }

    private int slandersToEnd(int thing) {
        slandered.copyFrom(now);
        for (int slanders = 0; slanders <= MOST_SLANDERS; slanders++) {
            ahead.copyFrom(slandered);
            ahead.passTicks(BEARS_TICKS);
            if (!ahead.lives(thing)) {
                return slanders;
            }
            slandered.lie(thing, -1);
        }
        return NONE;
    }

    // ---- programs and undo

    private boolean doStep() {
        int first = text.numbers[0];
        int second = text.numbers[1];
        int third = text.numbers[2];
        switch (text.letter) {
            case 'n':
                return now.things < MOST_THINGS && now.bring(first) != NONE;
            case 'h':
                if (!isHand(first) || !now.mayBeHeld(second)) {
                    return false;
                }
                now.change(first, second);
                return true;
            case 's':
                if (!now.lives(first) || !isSlot(second) || !now.mayBeHeld(third)) {
                    return false;
                }
                now.change(placeOf(first, second), third);
                return true;
            case 't':
                if (now.time + first > LAST_TIME) {
                    return false;
                }
                now.passTicks(first);
                return true;
            default:
                now.holdTrial();
                return true;
        }
    }

    private void save() {
        if (savedStates >= MOST_SAVED) {
            World oldest = saved[0];
            for (int i = 1; i < MOST_SAVED; i++) {
                saved[i - 1] = saved[i];
            }
            saved[MOST_SAVED - 1] = oldest;
            savedStates = MOST_SAVED - 1;
        }
        saved[savedStates].copyFrom(now);
        savedStates++;
    }

    // ---- what arguments may be

    private boolean isThing(int thing) {
        return thing >= 0 && thing < now.things;
    }

    private boolean isThingOrNone(int thing) {
        return thing == NONE || isThing(thing);
    }

    private static boolean isHand(int hand) {
        return hand >= 0 && hand < HANDS;
    }

    private static boolean isSlot(int slot) {
        return slot >= 0 && slot < SLOTS;
    }

    private static boolean isSetting(int setting) {
        return setting >= 0 && setting < SETTINGS;
    }

    private static int mostOf(int setting) {
        if (setting < GOSSIPS) {
            return MOST_DELAY;
        }
        return setting == PROOFS ? 1 : MOST_BETWEEN_TRIALS;
    }

    /** Hands come first, as bestCut() numbers them. */
    private static int placeOf(int thing, int slot) {
        return HANDS + SLOTS * thing + slot;
    }

    private static boolean isIn(int set, int thing) {
        return (set >> thing & 1) != 0;
    }

    /** All that undo() restores. Sets of things are bit masks. */
    private static final class World {
        int time;
        int things;
        int living;
        int suspects;
        int wronged;
        int ends;
        int slanderFound;
        final int[] settings;
        final int[] ranks;
        final int[] counts;
        final int[] came;
        final int[] endNumbers;
        final int[] endTimes;
        final int[] endKinds;
        final int[] endOrder;
        final Holdings holdings;
        final Reports reports;

        World() {
            settings = new int[] {1, 3, 2, 0, 0};
            ranks = new int[MOST_THINGS];
            counts = new int[MOST_THINGS];
            came = new int[MOST_THINGS];
            endNumbers = new int[MOST_THINGS];
            endTimes = new int[MOST_THINGS];
            endKinds = new int[MOST_THINGS];
            endOrder = new int[MOST_THINGS];
            holdings = new Holdings();
            reports = new Reports();
        }

        void copyFrom(World other) {
            time = other.time;
            things = other.things;
            living = other.living;
            suspects = other.suspects;
            wronged = other.wronged;
            ends = other.ends;
            slanderFound = other.slanderFound;
            System.arraycopy(other.settings, 0, settings, 0, SETTINGS);
            System.arraycopy(other.ranks, 0, ranks, 0, MOST_THINGS);
            System.arraycopy(other.counts, 0, counts, 0, MOST_THINGS);
            System.arraycopy(other.came, 0, came, 0, MOST_THINGS);
            System.arraycopy(other.endNumbers, 0, endNumbers, 0, MOST_THINGS);
            System.arraycopy(other.endTimes, 0, endTimes, 0, MOST_THINGS);
            System.arraycopy(other.endKinds, 0, endKinds, 0, MOST_THINGS);
            System.arraycopy(other.endOrder, 0, endOrder, 0, MOST_THINGS);
            holdings.copyFrom(other.holdings);
            reports.copyFrom(other.reports);
        }

        boolean lives(int thing) {
            return thing >= 0 && thing < MOST_THINGS && isIn(living, thing);
        }

        boolean mayBeHeld(int thing) {
            return thing == NONE || lives(thing);
        }

        int bring(int rank) {
            int thing = things;
            if (thing < 0 || thing >= MOST_THINGS) {
                return NONE;
            }
            ranks[thing] = rank;
            came[thing] = time;
            endNumbers[thing] = NONE;
            endTimes[thing] = NONE;
            living |= 1 << thing;
            things++;
            return thing;
        }

        int change(int place, int thing) {
            int before = holdings.at(place);
            holdings.hold(place, thing);
            if (thing != NONE) {
                reports.make(thing, 1, dueTime(thing), 0);
            }
            if (before != NONE) {
                reports.make(before, -1, dueTime(before), 0);
            }
            hearDue();
            return before;
        }

        int lie(int thing, int by) {
            int number = reports.make(thing, by, dueTime(thing), 1);
            hearDue();
            return number;
        }

        int setCountsRight() {
            int changed = 0;
            for (int thing = 0; thing < MOST_THINGS; thing++) {
                if (lives(thing) && isWrong(thing)) {
                    counts[thing] = holdings.truthOf(thing) - reports.sumFor(thing);
                    changed++;
                }
            }
            return changed;
        }

        int passTicks(int ticks) {
            int before = ends;
            for (int n = 0; n < ticks; n++) {
                time++;
                hearDue();
                int every = settings[TRIAL_EVERY];
                if (every > 0 && time % every == 0) {
                    holdTrial();
                }
            }
            return ends - before;
        }

        int holdTrial() {
            int before = ends;
            int accused = suspects;
            for (int thing = 0; thing < MOST_THINGS; thing++) {
                if (isIn(accused & suspects, thing)) {
                    judge(thing);
                    hearDue();
                }
            }
            return ends - before;
        }

        private void judge(int suspect) {
            int set = holdings.reachOf(suspect) | 1 << suspect;
            if (reports.anyFor(set)) {
                return;
            }
            suspects &= ~(1 << suspect);
            int guilty = set & ~holdings.reachedFrom(withRest(set), NONE);
            int left = guilty;
            for (int n = 0; n < MOST_THINGS && left != 0; n++) {
                int thing = highestOf(left);
                endThing(thing, guilty, IN_TRIAL);
                left &= ~(1 << thing);
            }
        }

        private int withRest(int set) {
            int found = 0;
            for (int thing = 0; thing < MOST_THINGS; thing++) {
                if (isIn(set, thing) && counts[thing] > holdings.slotsThatHold(thing, set)) {
                    found |= 1 << thing;
                }
            }
            return found;
        }

        private int highestOf(int set) {
            int best = 0;
            int bestRank = -1;
            for (int thing = 0; thing < MOST_THINGS; thing++) {
                if (isIn(set, thing) && ranks[thing] > bestRank) {
                    best = thing;
                    bestRank = ranks[thing];
                }
            }
            return best;
        }

        private void hearDue() {
            for (int n = 0; n < MOST_REPORTS && reports.anyDue(time); n++) {
                int thing = reports.part(0, ABOUT);
                int by = reports.part(0, BY);
                reports.dropFirst();
                if (lives(thing)) {
                    counts[thing] += by;
                    if (by < 0 && mustEnd(thing)) {
                        endThing(thing, 1 << thing, BY_COUNT);
                    }
                }
            }
        }

        /** Tells whether the count ends the thing, and marks suspects and found slander on the way. */
        private boolean mustEnd(int thing) {
            if (counts[thing] > 0) {
                suspects |= 1 << thing;
                return false;
            }
            if (reports.anyFor(1 << thing)) {
                return false;
            }
            int truth = settings[PROOFS] == 0 ? 0 : holdings.truthOf(thing);
            if (truth == 0) {
                return true;
            }
            counts[thing] = truth;
            slanderFound++;
            return false;
        }

        /** The things that end in the same trial, itself among them, get no reports and wrong nobody. */
        private void endThing(int thing, int together, int kind) {
            if (!lives(thing) || ends < 0 || ends >= MOST_THINGS) {
                return;
            }
            living &= ~(1 << thing);
            suspects &= ~(1 << thing);
            endNumbers[thing] = ends;
            endTimes[thing] = time;
            endKinds[thing] = kind;
            endOrder[ends] = thing;
            ends++;
            for (int slot = 0; slot < SLOTS; slot++) {
                int place = placeOf(thing, slot);
                int held = holdings.at(place);
                holdings.hold(place, NONE);
                if (held != NONE && !isIn(together, held)) {
                    reports.make(held, -1, dueTime(held), 0);
                }
            }
            if (holdings.letGo(thing, together)) {
                wronged |= 1 << thing;
            }
        }

        private int dueTime(int thing) {
            return time + settings[Math.floorMod(thing, GOSSIPS)];
        }

        private boolean isWrong(int thing) {
            return counts[thing] + reports.sumFor(thing) != holdings.truthOf(thing);
        }

        int property(int thing, int what) {
            if (thing < 0 || thing >= MOST_THINGS) {
                return 0;
            }
            switch (what) {
                case 0:
                    return living >> thing & 1;
                case 1:
                    return ranks[thing];
                case 2:
                    return counts[thing];
                case 3:
                    return holdings.truthOf(thing);
                case 4:
                    return reports.numberFor(thing);
                case 5:
                    return reports.sumFor(thing);
                case 6:
                    return suspects >> thing & 1;
                case 7:
                    return holdings.reached() >> thing & 1;
                case 8:
                    return came[thing];
                case 9:
                    return endNumbers[thing];
                case 10:
                    return endTimes[thing];
                case 11:
                    return endKinds[thing];
                default:
                    return wronged >> thing & 1;
            }
        }

        int total(int what) {
            switch (what) {
                case 0:
                    return time;
                case 1:
                    return things;
                case 2:
                    return Integer.bitCount(living);
                case 3:
                    return Integer.bitCount(holdings.reached());
                case 4:
                    return Integer.bitCount(suspects);
                case 5:
                    return reports.underWay();
                case 6:
                    return reports.made;
                case 7:
                    return ends;
                case 8:
                    return endsInTrials();
                case 9:
                    return Integer.bitCount(wronged);
                case 10:
                    return slanderFound;
                case 11:
                    return holdings.taken();
                default:
                    return wrongCounts();
            }
        }

        private int endsInTrials() {
            int found = 0;
            for (int thing = 0; thing < things && thing < MOST_THINGS; thing++) {
                if (endKinds[thing] == IN_TRIAL) {
                    found++;
                }
            }
            return found;
        }

        private int wrongCounts() {
            int found = 0;
            for (int thing = 0; thing < MOST_THINGS; thing++) {
                if (lives(thing) && isWrong(thing)) {
                    found++;
                }
            }
            return found;
        }
    }

    /** What hands and slots hold. Slots of things that ended are empty, so all that is held lives. */
    private static final class Holdings {
        private final int[] held;

        Holdings() {
            held = new int[PLACES];
            for (int place = 0; place < PLACES; place++) {
                held[place] = NONE;
            }
        }

        void copyFrom(Holdings other) {
            System.arraycopy(other.held, 0, held, 0, PLACES);
        }

        int at(int place) {
            return place >= 0 && place < PLACES ? held[place] : NONE;
        }

        void hold(int place, int thing) {
            if (place >= 0 && place < PLACES) {
                held[place] = thing;
            }
        }

        int taken() {
            int found = 0;
            for (int place = 0; place < PLACES; place++) {
                if (held[place] != NONE) {
                    found++;
                }
            }
            return found;
        }

        int truthOf(int thing) {
            int found = 0;
            for (int place = 0; place < PLACES; place++) {
                if (held[place] == thing) {
                    found++;
                }
            }
            return found;
        }

        int slotsThatHold(int thing, int owners) {
            int found = 0;
            for (int place = HANDS; place < PLACES; place++) {
                if (held[place] == thing && isIn(owners, (place - HANDS) / SLOTS)) {
                    found++;
                }
            }
            return found;
        }

        /** Empties all that holds the thing; tells whether that was a hand or a slot of a thing not of these. */
        boolean letGo(int thing, int together) {
            boolean others = false;
            for (int place = 0; place < PLACES; place++) {
                if (held[place] == thing) {
                    held[place] = NONE;
                    others = others || place < HANDS || !isIn(together, (place - HANDS) / SLOTS);
                }
            }
            return others;
        }

        int reached() {
            return reachedWithout(NONE);
        }

        int reachOf(int thing) {
            return reachedFrom(heldAmong(placeOf(thing, 0), SLOTS, NONE), NONE);
        }

        int ringOf(int thing) {
            int reach = reachOf(thing);
            int ring = 0;
            for (int other = 0; other < MOST_THINGS; other++) {
                if (isIn(reach, other) && isIn(reachOf(other), thing)) {
                    ring |= 1 << other;
                }
            }
            return ring;
        }

        int cutWithMostLost() {
            int best = NONE;
            int mostLost = 0;
            for (int place = 0; place < PLACES; place++) {
                int lost = held[place] == NONE ? 0 : lostWithout(place);
                if (lost > mostLost) {
                    best = place;
                    mostLost = lost;
                }
            }
            return best;
        }

        int lostWithout(int place) {
            return Integer.bitCount(reached()) - Integer.bitCount(reachedWithout(place));
        }

        /** These things and all that they reach, if the place without held nothing. */
        int reachedFrom(int start, int without) {
            int found = start;
            int left = start;
            for (int n = 0; n < MOST_THINGS && left != 0; n++) {
                int thing = Integer.numberOfTrailingZeros(left);
                int more = heldAmong(placeOf(thing, 0), SLOTS, without) & ~found;
                found |= more;
                left = left & ~(1 << thing) | more;
            }
            return found;
        }

        private int reachedWithout(int without) {
            return reachedFrom(heldAmong(0, HANDS, without), without);
        }

        private int heldAmong(int first, int places, int without) {
            int found = 0;
            for (int place = first; place >= 0 && place < first + places && place < PLACES; place++) {
                if (place != without && held[place] != NONE) {
                    found |= 1 << held[place];
                }
            }
            return found;
        }
    }

    /**
     * All reports, in the order in which they are heard: those before the index heard were heard.
     * As a report is never moved before that index, what was heard need not be cleared away.
     */
    private static final class Reports {
        int heard;
        int made;
        private final int[] rows;
        private final int[] numbers;
        private final int[] sums;

        Reports() {
            rows = new int[PARTS * MOST_REPORTS];
            numbers = new int[MOST_THINGS];
            sums = new int[MOST_THINGS];
        }

        void copyFrom(Reports other) {
            heard = other.heard;
            made = other.made;
            System.arraycopy(other.numbers, 0, numbers, 0, MOST_THINGS);
            System.arraycopy(other.sums, 0, sums, 0, MOST_THINGS);
            System.arraycopy(other.rows, PARTS * heard, rows, PARTS * heard, PARTS * (made - heard));
        }

        int underWay() {
            return made - heard;
        }

        int part(int place, int what) {
            int index = PARTS * (heard + place) + what;
            return index >= 0 && index < PARTS * MOST_REPORTS ? rows[index] : 0;
        }

        boolean anyDue(int time) {
            return heard < made && part(0, DUE) <= time;
        }

        boolean anyFor(int set) {
            for (int thing = 0; thing < MOST_THINGS; thing++) {
                if (isIn(set, thing) && numbers[thing] > 0) {
                    return true;
                }
            }
            return false;
        }

        int numberFor(int thing) {
            return thing >= 0 && thing < MOST_THINGS ? numbers[thing] : 0;
        }

        int sumFor(int thing) {
            return thing >= 0 && thing < MOST_THINGS ? sums[thing] : 0;
        }

        /** A new report has the highest number, so it goes behind all that are due no later. */
        int make(int thing, int by, int due, int isFalse) {
            int number = made;
            if (number < 0 || number >= MOST_REPORTS || thing < 0 || thing >= MOST_THINGS) {
                return number;
            }
            int place = number;
            while (place > heard && place > 0 && rows[PARTS * (place - 1) + DUE] > due) {
                place--;
            }
            int row = PARTS * place;
            System.arraycopy(rows, row, rows, row + PARTS, PARTS * (number - place));
            rows[row + NUMBER] = number;
            rows[row + ABOUT] = thing;
            rows[row + BY] = by;
            rows[row + DUE] = due;
            rows[row + FALSE] = isFalse;
            numbers[thing]++;
            sums[thing] += by;
            made++;
            return number;
        }

        void dropFirst() {
            int thing = part(0, ABOUT);
            if (heard < made && thing >= 0 && thing < MOST_THINGS) {
                numbers[thing]--;
                sums[thing] -= part(0, BY);
                heard++;
            }
        }
    }

    /** The buffer. What may come next is a state; the digits of a number may go on in some of them. */
    private static final class Text {
        private static final int WRONG = -1;
        private static final int STEP = 0;
        private static final int RANK = 1;
        private static final int HAND = 2;
        private static final int SLOT = 3;
        private static final int EQUALS = 4;
        private static final int HELD = 5;
        private static final int HELD_TENS = 6;
        private static final int HELD_TWENTIES = 7;
        private static final int OWNER = 8;
        private static final int OWNER_TENS = 9;
        private static final int OWNER_TWENTIES = 10;
        private static final int DOT = 11;
        private static final int TICKS = 12;
        private static final int MORE_TICKS = 13;
        private static final int STEP_END = 14;

        private static final int MOST_NUMBERS = 3;

        int length;
        final int[] codes;
        int letter;
        final int[] numbers;
        private int at;

        Text() {
            codes = new int[MOST_CODES];
            numbers = new int[MOST_NUMBERS];
        }

        int errorAt() {
            int state = STEP;
            for (int i = 0; i < length && i < MOST_CODES; i++) {
                state = next(state, codes[i]);
                if (state == WRONG) {
                    return i;
                }
            }
            return length;
        }

        boolean isProgram() {
            int state = STEP;
            for (int i = 0; i < length && i < MOST_CODES; i++) {
                state = next(state, codes[i]);
            }
            return state == STEP_END || state == HELD_TENS || state == HELD_TWENTIES || state == MORE_TICKS;
        }

        private static int next(int state, int code) {
            switch (state) {
                case STEP:
                    return nextInStep(code);
                case RANK:
                    return isDigit(code, 0, 9) ? STEP_END : WRONG;
                case HAND:
                case SLOT:
                    return isDigit(code, 0, 3) ? EQUALS : WRONG;
                case EQUALS:
                    return code == '=' ? HELD : WRONG;
                case HELD:
                    return code == '-' ? STEP_END : nextInThing(code, STEP_END, HELD_TENS, HELD_TWENTIES);
                case OWNER:
                    return nextInThing(code, DOT, OWNER_TENS, OWNER_TWENTIES);
                case TICKS:
                    return isDigit(code, 1, 9) ? MORE_TICKS : WRONG;
                case HELD_TENS:
                case MORE_TICKS:
                    return isDigit(code, 0, 9) ? STEP_END : nextIf(code, ';', STEP);
                case HELD_TWENTIES:
                    return isDigit(code, 0, 3) ? STEP_END : nextIf(code, ';', STEP);
                case STEP_END:
                    return nextIf(code, ';', STEP);
                case OWNER_TENS:
                    return isDigit(code, 0, 9) ? DOT : nextIf(code, '.', SLOT);
                case OWNER_TWENTIES:
                    return isDigit(code, 0, 3) ? DOT : nextIf(code, '.', SLOT);
                case DOT:
                    return nextIf(code, '.', SLOT);
                default:
                    return WRONG;
            }
        }

        private static int nextInStep(int code) {
            switch (code) {
                case 'n':
                    return RANK;
                case 'h':
                    return HAND;
                case 's':
                    return OWNER;
                case 't':
                    return TICKS;
                case 'j':
                    return STEP_END;
                default:
                    return WRONG;
            }
        }

        private static int nextInThing(int code, int whole, int tens, int twenties) {
            if (code == '1') {
                return tens;
            }
            if (code == '2') {
                return twenties;
            }
            return isDigit(code, 0, 9) ? whole : WRONG;
        }

        private static int nextIf(int code, int wanted, int state) {
            return code == wanted ? state : WRONG;
        }

        private static boolean isDigit(int code, int least, int most) {
            return code >= '0' + least && code <= '0' + most;
        }

        void toBegin() {
            at = 0;
        }

        /** Reads the letter and the numbers of the next step; only for what isProgram() tells to be one. */
        boolean readStep() {
            if (!hasMore()) {
                return false;
            }
            letter = codes[at];
            at++;
            for (int n = 0; n < MOST_NUMBERS && hasMore() && codes[at] != ';'; n++) {
                numbers[n] = readNumber();
                if (hasMore() && (codes[at] == '.' || codes[at] == '=')) {
                    at++;
                }
            }
            // Now at the ";" or the end of the text.
            at++;
            return true;
        }

        private int readNumber() {
            if (hasMore() && codes[at] == '-') {
                at++;
                return NONE;
            }
            int number = 0;
            for (int n = 0; n < MOST_CODES && hasMore() && isDigit(codes[at], 0, 9); n++) {
                number = 10 * number + codes[at] - '0';
                at++;
            }
            return number;
        }

        private boolean hasMore() {
            return at >= 0 && at < length && at < MOST_CODES;
        }
    }
}
