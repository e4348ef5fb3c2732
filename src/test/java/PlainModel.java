import java.util.ArrayDeque;
import java.util.ArrayList;
import java.util.Comparator;
import java.util.LinkedHashSet;
import java.util.List;
import java.util.Set;
import java.util.TreeSet;
import java.util.regex.Matcher;
import java.util.regex.Pattern;

/**
 * The document once more, written by its words with objects and lists and no care for speed,
 * so that the class can be held against something that shares none of its rows and masks.
 */
final class PlainModel {
    static final int NONE = -1;

    static final class Thing {
        int number;
        boolean lives = true;
        int rank;
        int count;
        Thing[] slots = new Thing[4];
        boolean isSuspect;
        int came;
        int endNumber = NONE;
        int endTime = NONE;
        int endedBy;
        boolean wronged;
    }

    static final class Report {
        int number;
        Thing thing;
        int by;
        int due;
        boolean isFalse;
    }

    /** What undo restores. */
    static final class World {
        int time;
        List<Thing> things = new ArrayList<>();
        Thing[] hands = new Thing[4];
        List<Report> underWay = new ArrayList<>();
        int reportsMade;
        List<Thing> ends = new ArrayList<>();
        int slanderFound;
        int[] settings = {1, 3, 2, 0, 0};

        World copy() {
            World w = new World();
            w.time = time;
            for (Thing t : things) {
                Thing u = new Thing();
                u.number = t.number;
                u.lives = t.lives;
                u.rank = t.rank;
                u.count = t.count;
                u.isSuspect = t.isSuspect;
                u.came = t.came;
                u.endNumber = t.endNumber;
                u.endTime = t.endTime;
                u.endedBy = t.endedBy;
                u.wronged = t.wronged;
                w.things.add(u);
            }
            for (Thing t : things) {
                for (int s = 0; s < 4; s++) {
                    w.things.get(t.number).slots[s] = same(w, t.slots[s]);
                }
            }
            for (int h = 0; h < 4; h++) {
                w.hands[h] = same(w, hands[h]);
            }
            for (Report r : underWay) {
                Report q = new Report();
                q.number = r.number;
                q.thing = same(w, r.thing);
                q.by = r.by;
                q.due = r.due;
                q.isFalse = r.isFalse;
                w.underWay.add(q);
            }
            w.reportsMade = reportsMade;
            for (Thing t : ends) {
                w.ends.add(same(w, t));
            }
            w.slanderFound = slanderFound;
            w.settings = settings.clone();
            return w;
        }

        private static Thing same(World w, Thing t) {
            return t == null ? null : w.things.get(t.number);
        }

        Set<Thing> reach(Thing t) {
            Set<Thing> all = new LinkedHashSet<>();
            ArrayDeque<Thing> todo = new ArrayDeque<>();
            todo.add(t);
            while (!todo.isEmpty()) {
                for (Thing held : todo.remove().slots) {
                    if (held != null && all.add(held)) {
                        todo.add(held);
                    }
                }
            }
            return all;
        }

        Set<Thing> reached() {
            Set<Thing> all = new LinkedHashSet<>();
            for (Thing h : hands) {
                if (h != null) {
                    all.add(h);
                    all.addAll(reach(h));
                }
            }
            return all;
        }

        int truth(Thing thing) {
            int n = 0;
            for (Thing h : hands) {
                n += h == thing ? 1 : 0;
            }
            for (Thing t : things) {
                for (Thing held : t.slots) {
                    n += t.lives && held == thing ? 1 : 0;
                }
            }
            return n;
        }

        int pending(Thing t) {
            return (int) underWay.stream().filter(r -> r.thing == t).count();
        }

        int pendingSum(Thing t) {
            return underWay.stream().filter(r -> r.thing == t).mapToInt(r -> r.by).sum();
        }

        long suspects() {
            return things.stream().filter(t -> t.isSuspect).count();
        }

        long wronged() {
            return things.stream().filter(t -> t.wronged).count();
        }

        Report make(Thing t, int by, boolean isFalse) {
            Report r = new Report();
            r.number = reportsMade++;
            r.thing = t;
            r.by = by;
            r.due = time + settings[t.number % 3];
            r.isFalse = isFalse;
            underWay.add(r);
            underWay.sort(Comparator.comparingInt((Report x) -> x.due).thenComparingInt(x -> x.number));
            return r;
        }

        void changed(Thing held, Thing before) {
            if (held != null) {
                make(held, 1, false);
            }
            if (before != null) {
                make(before, -1, false);
            }
            hear();
        }

        void hear() {
            while (!underWay.isEmpty() && underWay.get(0).due <= time) {
                Report r = underWay.remove(0);
                Thing t = r.thing;
                if (!t.lives) {
                    continue;
                }
                t.count += r.by;
                if (r.by == 1) {
                    continue;
                }
                if (t.count > 0) {
                    t.isSuspect = true;
                } else if (pending(t) == 0) {
                    if (settings[3] == 0 || truth(t) == 0) {
                        end(t, List.of(t), 1);
                    } else {
                        t.count = truth(t);
                        slanderFound++;
                    }
                }
            }
        }

        void end(Thing t, List<Thing> together, int by) {
            t.lives = false;
            t.isSuspect = false;
            t.endNumber = ends.size();
            t.endTime = time;
            t.endedBy = by;
            ends.add(t);
            for (int s = 0; s < 4; s++) {
                Thing held = t.slots[s];
                t.slots[s] = null;
                if (held != null && !together.contains(held)) {
                    make(held, -1, false);
                }
            }
            for (Thing u : things) {
                for (int s = 0; s < 4; s++) {
                    if (u.slots[s] == t) {
                        u.slots[s] = null;
                        t.wronged |= u.lives && !together.contains(u);
                    }
                }
            }
            for (int h = 0; h < 4; h++) {
                if (hands[h] == t) {
                    hands[h] = null;
                    t.wronged = true;
                }
            }
        }

        int trial() {
            int before = ends.size();
            List<Thing> accused = new ArrayList<>(things);
            accused.removeIf(t -> !t.isSuspect);
            for (Thing t : accused) {
                if (t.isSuspect) {
                    tryOne(t);
                    hear();
                }
            }
            return ends.size() - before;
        }

        private void tryOne(Thing accused) {
            Set<Thing> set = reach(accused);
            set.add(accused);
            for (Thing t : set) {
                if (pending(t) > 0) {
                    return;
                }
            }
            accused.isSuspect = false;
            Set<Thing> innocent = new LinkedHashSet<>();
            for (Thing t : set) {
                int rest = t.count;
                for (Thing u : set) {
                    for (Thing held : u.slots) {
                        rest -= held == t ? 1 : 0;
                    }
                }
                if (rest > 0) {
                    innocent.add(t);
                    innocent.addAll(reach(t));
                }
            }
            List<Thing> guilty = new ArrayList<>(set);
            guilty.removeAll(innocent);
            guilty.sort(Comparator.comparingInt((Thing t) -> -t.rank).thenComparingInt(t -> t.number));
            for (Thing t : guilty) {
                end(t, guilty, 2);
            }
        }

        int pass(int ticks) {
            int before = ends.size();
            for (int n = 0; n < ticks; n++) {
                time++;
                hear();
                if (settings[4] != 0 && time % settings[4] == 0) {
                    trial();
                }
            }
            return ends.size() - before;
        }
    }

    World now = new World();
    final List<World> saved = new ArrayList<>();
    String buffer = "";
    private boolean inRun = false;

    private void save() {
        if (inRun) {
            return;
        }
        saved.add(now.copy());
        if (saved.size() > 6) {
            saved.remove(0);
        }
    }

    private void in(int value, int least, int most) {
        if (value < least || value > most) {
            throw new IllegalArgumentException();
        }
    }

    private void index(int value, int least, int most) {
        if (value < least || value > most) {
            throw new IndexOutOfBoundsException();
        }
    }

    private Thing known(int thing) {
        index(thing, 0, now.things.size() - 1);
        return now.things.get(thing);
    }

    private void state(boolean holds) {
        if (!holds) {
            throw new IllegalStateException();
        }
    }

    private static int numberOf(Thing t) {
        return t == null ? NONE : t.number;
    }

    int add(int rank) {
        in(rank, 0, 9);
        state(now.things.size() < 24);
        save();
        Thing t = new Thing();
        t.number = now.things.size();
        t.rank = rank;
        t.came = now.time;
        now.things.add(t);
        return t.number;
    }

    int take(int hand, int thing) {
        index(hand, 0, 3);
        Thing check = thing == NONE ? null : known(thing);
        state(check == null || check.lives);
        save();
        Thing before = now.hands[hand];
        now.hands[hand] = check;
        now.changed(check, before);
        return numberOf(before);
    }

    int put(int thing, int slot, int other) {
        Thing owner = known(thing);
        index(slot, 0, 3);
        Thing held = other == NONE ? null : known(other);
        state(owner.lives && (held == null || held.lives));
        save();
        Thing before = owner.slots[slot];
        owner.slots[slot] = held;
        now.changed(held, before);
        return numberOf(before);
    }

    int slander(int thing, int by) {
        Thing t = known(thing);
        if (by != 1 && by != -1) {
            throw new IllegalArgumentException();
        }
        state(t.lives);
        save();
        int number = now.make(t, by, true).number;
        now.hear();
        return number;
    }

    int suspect(int thing) {
        Thing t = known(thing);
        state(t.lives && !t.isSuspect);
        save();
        t.isSuspect = true;
        return (int) now.suspects();
    }

    int set(int setting, int value) {
        index(setting, 0, 4);
        in(value, 0, setting < 3 ? 20 : setting == 3 ? 1 : 50);
        save();
        int before = now.settings[setting];
        now.settings[setting] = value;
        return before;
    }

    int pass(int ticks) {
        in(ticks, 1, 100);
        state(now.time + ticks <= 5000);
        save();
        return now.pass(ticks);
    }

    int trial() {
        save();
        return now.trial();
    }

    int audit() {
        save();
        int changed = 0;
        for (Thing t : now.things) {
            int right = now.truth(t) - now.pendingSum(t);
            if (t.lives && t.count != right) {
                t.count = right;
                changed++;
            }
        }
        return changed;
    }

    int append(int code) {
        in(code, 33, 126);
        state(buffer.length() < 60);
        buffer += (char) code;
        return buffer.length();
    }

    int clearBuffer() {
        int n = buffer.length();
        buffer = "";
        return n;
    }

    private static final String THING = "(?:1[0-9]|2[0-3]|[0-9])";
    private static final String STEP = "(?:n[0-9]|h[0-3]=(?:" + THING + "|-)|s" + THING + "\\.[0-3]=(?:" + THING
            + "|-)|t[1-9][0-9]?|j)";
    private static final Pattern PROGRAM = Pattern.compile(STEP + "(?:;" + STEP + ")*");

    int firstError() {
        for (int n = 1; n <= buffer.length(); n++) {
            Matcher m = PROGRAM.matcher(buffer.substring(0, n));
            if (!m.matches() && !m.hitEnd()) {
                return n - 1;
            }
        }
        return buffer.length();
    }

    int run() {
        if (!PROGRAM.matcher(buffer).matches()) {
            throw new IllegalArgumentException();
        }
        save();
        inRun = true;
        int done = 0;
        try {
            for (String step : buffer.split(";")) {
                step(step);
                done++;
            }
        } catch (IllegalArgumentException | IllegalStateException | IndexOutOfBoundsException e) {
            // The step is not done, nor are those behind it.
        }
        inRun = false;
        buffer = "";
        return done;
    }

    private void step(String step) {
        String[] parts = step.substring(1).split("[.=]");
        int[] n = new int[3];
        for (int i = 0; i < parts.length; i++) {
            n[i] = parts[i].equals("-") ? NONE : parts[i].isEmpty() ? 0 : Integer.parseInt(parts[i]);
        }
        switch (step.charAt(0)) {
            case 'n' -> add(n[0]);
            case 'h' -> take(n[0], n[1]);
            case 's' -> put(n[0], n[1], n[2]);
            case 't' -> pass(n[0]);
            default -> trial();
        }
    }

    int undo() {
        state(!saved.isEmpty());
        now = saved.remove(saved.size() - 1);
        return saved.size();
    }

    int thing(int thing, int what) {
        Thing t = known(thing);
        in(what, 0, 12);
        return switch (what) {
            case 0 -> t.lives ? 1 : 0;
            case 1 -> t.rank;
            case 2 -> t.count;
            case 3 -> t.lives ? now.truth(t) : 0;
            case 4 -> now.pending(t);
            case 5 -> now.pendingSum(t);
            case 6 -> t.isSuspect ? 1 : 0;
            case 7 -> now.reached().contains(t) ? 1 : 0;
            case 8 -> t.came;
            case 9 -> t.endNumber;
            case 10 -> t.endTime;
            case 11 -> t.endedBy;
            default -> t.wronged ? 1 : 0;
        };
    }

    int slot(int thing, int slot) {
        Thing t = known(thing);
        index(slot, 0, 3);
        return numberOf(t.slots[slot]);
    }

    int hand(int hand) {
        index(hand, 0, 3);
        return numberOf(now.hands[hand]);
    }

    int report(int place, int what) {
        index(place, 0, now.underWay.size() - 1);
        in(what, 0, 4);
        Report r = now.underWay.get(place);
        return switch (what) {
            case 0 -> r.number;
            case 1 -> r.thing.number;
            case 2 -> r.by;
            case 3 -> r.due;
            default -> r.isFalse ? 1 : 0;
        };
    }

    int ended(int end) {
        index(end, 0, now.ends.size() - 1);
        return now.ends.get(end).number;
    }

    int count(int what) {
        in(what, 0, 13);
        List<Thing> living = now.things.stream().filter(t -> t.lives).toList();
        int held = 0;
        for (int h = 0; h < 4; h++) {
            held += now.hands[h] != null ? 1 : 0;
        }
        for (Thing t : now.things) {
            for (Thing s : t.slots) {
                held += s != null ? 1 : 0;
            }
        }
        return switch (what) {
            case 0 -> now.time;
            case 1 -> now.things.size();
            case 2 -> living.size();
            case 3 -> now.reached().size();
            case 4 -> (int) now.suspects();
            case 5 -> now.underWay.size();
            case 6 -> now.reportsMade;
            case 7 -> now.ends.size();
            case 8 -> (int) now.ends.stream().filter(t -> t.endedBy == 2).count();
            case 9 -> (int) now.wronged();
            case 10 -> now.slanderFound;
            case 11 -> held;
            case 12 -> (int) living.stream().filter(t -> t.count + now.pendingSum(t) != now.truth(t)).count();
            default -> saved.size();
        };
    }

    int setting(int setting) {
        index(setting, 0, 4);
        return now.settings[setting];
    }

    int ifPassed(int ticks, int what) {
        in(ticks, 1, 100);
        in(what, 0, 3);
        World w = now.copy();
        int ended = w.pass(ticks);
        return switch (what) {
            case 0 -> ended;
            case 1 -> (int) (w.wronged() - now.wronged());
            case 2 -> w.underWay.size();
            default -> (int) w.things.stream().filter(t -> t.lives && !w.reached().contains(t)).count();
        };
    }

    int endsIn(int thing) {
        known(thing);
        World w = now.copy();
        for (int n = 0; n <= 200; n++) {
            if (!w.things.get(thing).lives) {
                return n;
            }
            w.pass(1);
        }
        return NONE;
    }

    int ifTried(int what) {
        in(what, 0, 2);
        World w = now.copy();
        int ended = w.trial();
        return what == 0 ? ended : (int) (what == 1 ? w.suspects() : w.wronged() - now.wronged());
    }

    int ring(int thing) {
        Thing t = known(thing);
        int mask = 0;
        for (Thing u : now.reach(t)) {
            mask |= now.reach(u).contains(t) ? 1 << u.number : 0;
        }
        return mask;
    }

    int bestCut(int what) {
        in(what, 0, 1);
        int before = now.reached().size();
        int best = NONE;
        int most = 0;
        for (int place = 0; place < 4 + 4 * now.things.size(); place++) {
            World w = now.copy();
            if (place < 4) {
                w.hands[place] = null;
            } else {
                w.things.get((place - 4) / 4).slots[place % 4] = null;
            }
            int lost = before - w.reached().size();
            if (lost > most) {
                most = lost;
                best = place;
            }
        }
        return what == 0 ? best : most;
    }

    int bears(int thing) {
        known(thing);
        TreeSet<Integer> enough = new TreeSet<>();
        for (int slanders = 12; slanders >= 0; slanders--) {
            World w = now.copy();
            Thing t = w.things.get(thing);
            for (int n = 0; n < slanders && t.lives; n++) {
                w.make(t, -1, true);
                w.hear();
            }
            w.pass(30);
            if (!t.lives) {
                enough.add(slanders);
            }
        }
        return enough.isEmpty() ? NONE : enough.first();
    }

    double reachedShare() {
        return count(2) == 0 ? 0.0 : (double) count(3) / count(2);
    }

    long digest() {
        List<Long> v = new ArrayList<>();
        for (int i = 0; i <= 13; i++) {
            v.add((long) count(i));
        }
        for (int i = 0; i <= 4; i++) {
            v.add((long) setting(i));
        }
        for (int i = 0; i <= 3; i++) {
            v.add((long) hand(i));
        }
        for (int t = 0; t < count(1); t++) {
            for (int i = 0; i <= 12; i++) {
                v.add((long) thing(t, i));
            }
            for (int i = 0; i <= 3; i++) {
                v.add((long) slot(t, i));
            }
            v.add((long) ring(t));
            v.add((long) endsIn(t));
        }
        for (int p = 0; p < count(5); p++) {
            for (int i = 0; i <= 4; i++) {
                v.add((long) report(p, i));
            }
        }
        for (int e = 0; e < count(7); e++) {
            v.add((long) ended(e));
        }
        for (int i = 0; i <= 3; i++) {
            v.add((long) ifPassed(20, i));
        }
        for (int i = 0; i <= 2; i++) {
            v.add((long) ifTried(i));
        }
        v.add((long) bestCut(0));
        v.add((long) bestCut(1));
        if (count(1) > 0) {
            v.add((long) bears(0));
        }
        v.add(Double.doubleToLongBits(reachedShare()));
        v.add((long) buffer.length());
        for (char c : buffer.toCharArray()) {
            v.add((long) c);
        }
        long hash = 2389;
        for (long x : v) {
            hash = 31 * hash + x;
        }
        return hash;
    }
}
