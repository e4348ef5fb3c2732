import java.util.ArrayList;
import java.util.List;
import java.util.TreeMap;

/** Random runs (the same ones each time) in which the class and the plain model must answer alike. */
public final class AgainstPlainModelTest {
    private static final int RUNS = 400;
    private static final int CALLS = 510;

    private final Chance chance;
    private final GossipCounts real = new GossipCounts();
    private final PlainModel model = new PlainModel();
    private final List<String> told = new ArrayList<>();
    private final boolean zeroDelays;
    private final boolean fewThings;
    private final boolean manyReports;
    private static final TreeMap<String, Integer> seen = new TreeMap<>();

    private AgainstPlainModelTest(int seed) {
        chance = new Chance(seed);
        zeroDelays = chance.below(3) == 0;
        fewThings = chance.below(2) == 0;
        manyReports = chance.below(5) == 0;
    }

    /** A generator of our own, so that the runs stay the same under every Java. */
    private static final class Chance {
        private long state;

        Chance(int seed) {
            state = seed * 7919L + 17;
        }

        int below(int n) {
            state = state * 6364136223846793005L + 1442695040888963407L;
            return (int) ((state >>> 33) % n);
        }
    }

    public static void main(String[] args) {
        int runs = args.length > 0 ? Integer.parseInt(args[0]) : RUNS;
        int from = args.length > 1 ? Integer.parseInt(args[1]) : 0;
        for (int seed = from; seed < from + runs; seed++) {
            if (!new AgainstPlainModelTest(seed).sameAllTheWay(seed)) {
                break;
            }
        }
        System.out.println("seen at the ends of the runs: " + seen);
        for (String what : List.of("ends by counts", "ends in trials", "wronged", "slander found")) {
            Check.equal("the runs came upon " + what, seen.getOrDefault(what, 0) > 100, true);
        }
        Check.end();
    }

    private boolean sameAllTheWay(int seed) {
        for (int n = 0; n < CALLS; n++) {
            if (!sameCall() || !endedWithoutReports()) {
                System.out.println("seed " + seed + ":");
                told.forEach(System.out::println);
                return false;
            }
        }
        note("ends by counts", model.count(7) - model.count(8));
        note("ends in trials", model.count(8));
        note("wronged", model.count(9));
        note("slander found", model.count(10));
        note("reports", model.count(6));
        note("runs with over 700 reports", model.count(6) > 700 ? 1 : 0);
        note("runs with over 200 reports under way", model.count(5) > 200 ? 1 : 0);
        return true;
    }

    /** Why nothing is ever heard of a thing that has ended: see termCountsNoThingEndsWithReportsUnderWay. */
    private boolean endedWithoutReports() {
        for (int end = 0; end < real.count(7); end++) {
            int thing = real.ended(end);
            if (real.thing(thing, 4) != 0 || real.thing(thing, 5) != 0) {
                Check.equal("reports for " + thing + ", which has ended", real.thing(thing, 4), 0);
                return false;
            }
        }
        return true;
    }

    private static void note(String what, int n) {
        seen.merge(what, n, Integer::sum);
    }

    private boolean same(String call, Check.Call got, Check.Call want) {
        Object due = Check.outcome(want);
        Object answer = Check.outcome(got);
        told.add(call + " -> " + answer + (due.equals(answer) ? "" : ", due is " + due));
        Check.equal(call, answer, due);
        return due.equals(answer);
    }

    private int aThing() {
        int n = model.count(1);
        return chance.below(40) == 0 ? chance.below(28) - 2 : n == 0 ? 0 : chance.below(n);
    }

    private int aThingOrNone() {
        return chance.below(3) == 0 ? -1 : aThing();
    }

    private int aLittleOff(int least, int most) {
        return chance.below(25) == 0 ? least - 2 + chance.below(most - least + 5) : least + chance.below(most - least + 1);
    }

    private boolean sameCall() {
        int a = aThing();
        int b = aThingOrNone();
        int s = aLittleOff(0, 3);
        if (manyReports && model.count(2) > 0 && chance.below(5) != 0) {
            return same("put " + a + " " + s + " " + a, () -> real.put(a, s, a), () -> model.put(a, s, a));
        }
        switch (chance.below(26)) {
            case 0:
            case 1:
                if (fewThings && model.count(1) >= 7 && chance.below(30) != 0) {
                    return sameLook();
                }
                int rank = aLittleOff(0, 9);
                return same("add " + rank, () -> real.add(rank), () -> model.add(rank));
            case 2:
            case 3:
            case 4:
                return same("take " + s + " " + b, () -> real.take(s, b), () -> model.take(s, b));
            case 5:
            case 6:
            case 7:
            case 8:
            case 9:
            case 10:
                return same("put " + a + " " + s + " " + b, () -> real.put(a, s, b), () -> model.put(a, s, b));
            case 11:
                int by = chance.below(12) == 0 ? aLittleOff(-2, 2) : chance.below(4) == 0 ? 1 : -1;
                return same("slander " + a + " " + by, () -> real.slander(a, by), () -> model.slander(a, by));
            case 12:
                return same("suspect " + a, () -> real.suspect(a), () -> model.suspect(a));
            case 13:
                return sameSet();
            case 14:
            case 15:
            case 16:
                int ticks = chance.below(12) == 0 ? aLittleOff(1, 100) : 1 + chance.below(4);
                return same("pass " + ticks, () -> real.pass(ticks), () -> model.pass(ticks));
            case 17:
                return same("trial", real::trial, model::trial);
            case 18:
                return chance.below(3) != 0 || same("audit", real::audit, model::audit);
            case 19:
                return sameProgram();
            case 20:
                return same("undo", real::undo, model::undo);
            case 21:
                return same("digest", real::digest, model::digest);
            default:
                return sameLook();
        }
    }

    private boolean sameSet() {
        int setting = aLittleOff(0, 4);
        int value = setting == 3 ? aLittleOff(0, 1) : setting == 4 ? chance.below(8) : zeroDelays ? chance.below(2)
                : chance.below(8) == 0 ? aLittleOff(0, 20) : chance.below(5);
        return same("set " + setting + " " + value, () -> real.set(setting, value), () -> model.set(setting, value));
    }

    private boolean sameProgram() {
        StringBuilder program = new StringBuilder();
        for (int n = 1 + chance.below(5); n > 0; n--) {
            program.append(aStep()).append(n > 1 ? ";" : "");
        }
        if (chance.below(3) == 0 && program.length() > 0) {
            int at = chance.below(program.length());
            program.setCharAt(at, "nhstj0123456789.=-;!~"
                    .charAt(chance.below(21)));
        }
        boolean alike = true;
        for (int i = 0; alike && i < program.length(); i++) {
            int code = chance.below(200) == 0 ? 32 + 95 * chance.below(2) : program.charAt(i);
            alike = same("append " + (char) code, () -> real.append(code), () -> model.append(code))
                    && (chance.below(4) != 0 || same("firstError", real::firstError, model::firstError));
        }
        alike = alike && same("firstError", real::firstError, model::firstError)
                && same("run " + program, real::run, model::run);
        return alike && (chance.below(3) == 0 || same("clearBuffer", real::clearBuffer, model::clearBuffer));
    }

    private String aStep() {
        String thing = "" + Math.max(0, aThing());
        String held = chance.below(3) == 0 ? "-" : thing;
        switch (chance.below(6)) {
            case 0:
                return "n" + chance.below(10);
            case 1:
                return "h" + chance.below(4) + "=" + held;
            case 2:
                return "t" + (1 + chance.below(9));
            case 3:
                return "j";
            default:
                return "s" + Math.max(0, aThing()) + "." + chance.below(4) + "=" + held;
        }
    }

    private boolean sameLook() {
        int a = aThing();
        int wild = aLittleOff(0, 30);
        switch (chance.below(14)) {
            case 0:
                int property = aLittleOff(0, 12);
                return same("thing " + a + " " + property, () -> real.thing(a, property), () -> model.thing(a, property));
            case 1:
                int slot = aLittleOff(0, 3);
                return same("slot " + a + " " + slot, () -> real.slot(a, slot), () -> model.slot(a, slot));
            case 2:
                int hand = aLittleOff(0, 3);
                return same("hand " + hand, () -> real.hand(hand), () -> model.hand(hand));
            case 3:
                int part = aLittleOff(0, 4);
                return same("report " + wild + " " + part, () -> real.report(wild, part), () -> model.report(wild, part));
            case 4:
                return same("ended " + wild, () -> real.ended(wild), () -> model.ended(wild));
            case 5:
                int what = aLittleOff(0, 13);
                return same("count " + what, () -> real.count(what), () -> model.count(what));
            case 6:
                int setting = aLittleOff(0, 4);
                return same("setting " + setting, () -> real.setting(setting), () -> model.setting(setting));
            case 7:
                int ticks = chance.below(2) == 0 ? 1 + chance.below(6) : aLittleOff(1, 100);
                int q = aLittleOff(0, 3);
                return same("ifPassed " + ticks + " " + q, () -> real.ifPassed(ticks, q), () -> model.ifPassed(ticks, q));
            case 8:
                return same("endsIn " + a, () -> real.endsIn(a), () -> model.endsIn(a));
            case 9:
                int t = aLittleOff(0, 2);
                return same("ifTried " + t, () -> real.ifTried(t), () -> model.ifTried(t));
            case 10:
                return same("ring " + a, () -> real.ring(a), () -> model.ring(a));
            case 11:
                int c = aLittleOff(0, 1);
                return same("bestCut " + c, () -> real.bestCut(c), () -> model.bestCut(c));
            case 12:
                return same("bears " + a, () -> real.bears(a), () -> model.bears(a));
            default:
                return same("reachedShare", real::reachedShare, model::reachedShare);
        }
    }
}
