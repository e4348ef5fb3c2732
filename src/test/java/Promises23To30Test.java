import java.math.BigInteger;
import java.util.ArrayList;
import java.util.List;

/** Promises 23 to 30, what would be, sentence by sentence, on both sides of each boundary. */
public final class Promises23To30Test {
    private static final int NONE = Boundary.NONE;
    private static final int[] FAR = {Integer.MIN_VALUE, -100, 1000, Integer.MAX_VALUE};

    public static void main(String[] args) {
        Boundary.runAll(Promises23To30Test.class);
    }

    /** Thing n of a chain whose links end 20 ticks behind one another, 0 first, in 20 ticks. */
    private static GossipCounts chain(int links) {
        GossipCounts g = Boundary.quick(links);
        for (int n = 0; n + 1 < links; n++) {
            g.put(n, 0, n + 1);
        }
        Boundary.delays(g, 20, 20, 20);
        g.slander(0, -1);
        return g;
    }

    // ---- all of them

    @Boundary.Holds(in = "Exceptions", says = "---- what would be; nothing is changed, and the limit of 5000 ticks does "
            + "not matter.")
    static void promises23To30TheLimitOf5000DoesNotMatter() {
        GossipCounts early = waiting(0);
        for (int time : new int[] {4900, 4950, 5000}) {
            GossipCounts late = waiting(time);
            Boundary.is("at " + time, whatWouldBe(late), whatWouldBe(early));
            Boundary.is("the time is still " + time, late.count(0), time);
            Boundary.alike("nothing was changed, which", late, waiting(time));
        }
        Boundary.is("as worked out", whatWouldBe(early), "0 0 2 3, 2 1 0 2, 3 1 0 1, 3 1 0 1; 20 -1 50 20; 1 0 0; "
                + "0 0 4 0; 0 1; 0 1 1 0; 0.25");
    }

    @Boundary.Holds(in = "Exceptions", says = "nothing is changed, and the limit of 5000 ticks does not matter.")
    static void promises23To30NothingIsChanged() {
        GossipCounts g = Boundary.eventful();
        int before = g.count(10) + g.count(7) + g.count(8) + g.count(9);
        g.pass(5);
        Boundary.is("what would happen: found, ends, in trials, wronged", before + ": " + g.count(10) + g.count(7)
                + g.count(8) + g.count(9), "0: 1431");
        Boundary.is("and the suspects", Boundary.suspects(g), "3");
        for (int what = 0; what <= 3; what++) {
            int w = what;
            Boundary.changesNothing("ifPassed", Boundary::eventful, x -> x.ifPassed(100, w));
            Boundary.changesNothing("ifTried", Boundary::eventful, x -> x.ifTried(w));
            Boundary.changesNothing("bestCut", Boundary::eventful, x -> x.bestCut(w));
        }
        for (int thing = 0; thing < 6; thing++) {
            int t = thing;
            Boundary.changesNothing("endsIn", Boundary::eventful, x -> x.endsIn(t));
            Boundary.changesNothing("bears", Boundary::eventful, x -> x.bears(t));
            Boundary.changesNothing("ring", Boundary::eventful, x -> x.ring(t));
        }
        Boundary.changesNothing("reachedShare", Boundary::eventful, GossipCounts::reachedShare);
        Boundary.changesNothing("digest", Boundary::eventful, GossipCounts::digest);
    }

    /** At the time, a multiple of 50: 0 and 3 end in 20 ticks, 0 wronged by a hand, and 2 in the trial in 50. */
    private static GossipCounts waiting(int time) {
        GossipCounts g = Boundary.late(Boundary.quick(4), time);
        g.take(0, 0);
        g.put(2, 0, 2);
        g.set(0, 20);
        g.set(4, 50);
        g.slander(0, -1);
        g.slander(3, -1);
        g.suspect(2);
        return g;
    }

    private static String whatWouldBe(GossipCounts g) {
        StringBuilder s = new StringBuilder();
        for (int ticks : new int[] {19, 20, 50, 100}) {
            for (int what = 0; what <= 3; what++) {
                s.append(g.ifPassed(ticks, what)).append(what < 3 ? " " : ticks < 100 ? ", " : "; ");
            }
        }
        for (int thing = 0; thing < 4; thing++) {
            s.append(g.endsIn(thing)).append(thing < 3 ? " " : "; ");
        }
        s.append(g.ifTried(0)).append(" ").append(g.ifTried(1)).append(" ").append(g.ifTried(2)).append("; ");
        for (int thing = 0; thing < 4; thing++) {
            s.append(g.ring(thing)).append(thing < 3 ? " " : "; ");
        }
        s.append(g.bestCut(0)).append(" ").append(g.bestCut(1)).append("; ");
        for (int thing = 0; thing < 4; thing++) {
            s.append(g.bears(thing)).append(thing < 3 ? " " : "; ");
        }
        return s.append(g.reachedShare()).toString();
    }

    // ---- 23: ifPassed

    @Boundary.Holds(in = "Promise 23", says = {"Tells what ticks would do, if nothing else was done.",
        "`ticks`: 1 to 100", "Returns the number.",
        "Throws `IllegalArgumentException` if ticks or what is out of range"})
    static void promise23TicksAndWhat() {
        for (int what = 0; what <= 3; what++) {
            int w = what;
            Boundary.allows("1 tick, " + what, 0, GossipCounts::new, x -> x.ifPassed(1, w));
            Boundary.allows("100 ticks, " + what, 0, GossipCounts::new, x -> x.ifPassed(100, w));
            Boundary.changesNothing("it", Boundary::busy, x -> x.ifPassed(100, w));
            for (int wrong : new int[] {0, -1, 101, FAR[0], FAR[3]}) {
                Boundary.refuses("ticks " + wrong, Boundary.ARGUMENT, Boundary::busy, x -> x.ifPassed(wrong, w));
            }
        }
        for (int wrong : new int[] {-1, 4, FAR[0], FAR[3]}) {
            Boundary.refuses("what " + wrong, Boundary.ARGUMENT, Boundary::busy, x -> x.ifPassed(1, wrong));
        }
    }

    @Boundary.Holds(in = "Promise 23", says = "`what`: 0: things that would end in them;")
    static void promise23Ends() {
        GossipCounts g = chain(6);
        int[][] due = {{1, 0}, {19, 0}, {20, 1}, {39, 1}, {40, 2}, {79, 3}, {80, 4}, {99, 4}, {100, 5}};
        for (int[] d : due) {
            Boundary.is("in " + d[0] + " ticks", g.ifPassed(d[0], 0), d[1]);
        }
        g.pass(40);
        Boundary.is("not those of before", g.ifPassed(19, 0) * 10 + g.ifPassed(20, 0), 1);
        GossipCounts at = Boundary.late(Boundary.quick(1), 4999);
        at.set(0, 20);
        at.slander(0, -1);
        Boundary.is("the limit of 5000 does not matter", at.ifPassed(19, 0) * 10 + at.ifPassed(20, 0), 1);
    }

    @Boundary.Holds(in = "Promise 23", says = "1: things that would be wronged in them; 2: reports that would be under "
            + "way then; 3: things that would live then and not be reached")
    static void promise23WrongedReportsAndUnreached() {
        GossipCounts g = Boundary.quick(5);
        g.take(0, 0);
        g.put(0, 0, 1);
        g.put(2, 0, 3);
        g.slander(4, -1);
        g.set(0, 10);
        g.set(1, 10);
        g.slander(0, -1);
        Boundary.is("wronged", g.ifPassed(9, 1) * 10 + g.ifPassed(10, 1), 1);
        Boundary.is("reports", g.ifPassed(9, 2) * 100 + g.ifPassed(10, 2) * 10 + g.ifPassed(20, 2), 110);
        Boundary.is("not reached: 2 and 3, then 1, too, then not", g.ifPassed(9, 3) * 100 + g.ifPassed(10, 3) * 10
                + g.ifPassed(20, 3), 232);
        g.pass(10);
        Boundary.is("none of before", g.ifPassed(1, 1), 0);
        Boundary.is("as pass does", g.count(5) * 10 + g.count(2) - g.count(3), 13);
    }

    // ---- 24: endsIn

    @Boundary.Holds(in = "Promise 24", says = {"Tells when a thing would end.", "Returns the least number of ticks "
            + "behind which it would have ended, if nothing else was done; 0 if it has ended; NONE if there is none up "
            + "to 200."})
    static void promise24Ticks0To200() {
        GossipCounts g = chain(12);
        for (int link = 0; link < 10; link++) {
            Boundary.is("link " + link, g.endsIn(link), 20 * (link + 1));
        }
        Boundary.is("220 are too many", g.endsIn(10), NONE);
        g.pass(19);
        Boundary.is("201 are too many", g.endsIn(10), NONE);
        Boundary.is("1", g.endsIn(0), 1);
        g.pass(1);
        Boundary.is("200 are not", g.endsIn(10), 200);
        Boundary.is("0 for what has ended", g.endsIn(0), 0);
        g.pass(1);
        Boundary.is("199", g.endsIn(10), 199);
        Boundary.allows("never", NONE, () -> Boundary.slow(1), x -> x.endsIn(0));
        Boundary.changesNothing("it", Boundary::busy, x -> x.endsIn(2));
        GossipCounts trial = Boundary.quick(1);
        trial.put(0, 0, 0);
        trial.suspect(0);
        trial.pass(1);
        trial.set(4, 50);
        Boundary.is("in a trial", trial.endsIn(0), 49);
    }

    @Boundary.Holds(in = "Promise 24", says = "Tells when a thing would end.")
    static void promise24AnyThing() {
        for (int thing = 0; thing < 24; thing++) {
            GossipCounts g = Boundary.slow(24);
            g.set(thing % 3, 1 + thing % 20);
            g.slander(thing, -1);
            for (int other = 0; other < 24; other++) {
                Boundary.is(thing + " was slandered, " + other, g.endsIn(other), other == thing ? 1 + thing % 20 : NONE);
            }
        }
    }

    @Boundary.Holds(in = "Promise 24", says = {"`thing`: its number",
        "Throws `IndexOutOfBoundsException` if there is no such thing"})
    static void promise24NoSuchThing() {
        Boundary.allows("the last one", NONE, Boundary::busy, x -> x.endsIn(4));
        Boundary.allows("one that ended", 0, Boundary::busy, x -> x.endsIn(1));
        for (int wrong : new int[] {-1, 5, 24, FAR[0], FAR[3]}) {
            Boundary.refuses("thing " + wrong, Boundary.INDEX, Boundary::busy, x -> x.endsIn(wrong));
        }
        Boundary.refuses("thing 24 of 24", Boundary.INDEX, () -> Boundary.slow(24), x -> x.endsIn(24));
    }

    @Boundary.Holds(in = "Promise 24", says = "Returns the least number of ticks behind which it would have ended, if "
            + "nothing else was done;")
    static void promise24BeyondTime5000() {
        GossipCounts g = Boundary.late(Boundary.quick(1), 5000);
        g.set(0, 20);
        g.slander(0, -1);
        Boundary.is("at 5020", g.endsIn(0), 20);
        Boundary.is("the time is as it was", g.count(0), 5000);
        Boundary.is("and may not go on", Check.outcome(() -> g.pass(1)), Boundary.STATE);
    }

    // ---- 25: ifTried

    @Boundary.Holds(in = "Promise 25", says = {"Tells what a trial would do.", "`what`: 0: how many things would end by "
            + "it (as trial() tells); 1: how many suspects there would be then; 2: how many things would be wronged",
        "Returns the number."})
    static void promise25WhatATrialWouldDo() {
        for (int what = 0; what <= 2; what++) {
            int w = what;
            Boundary.allows("without things", 0, GossipCounts::new, x -> x.ifTried(w));
            Boundary.changesNothing("it", Boundary::busy, x -> x.ifTried(w));
        }
        GossipCounts g = Boundary.quick(6);
        g.put(0, 0, 1);
        g.put(0, 1, 2);
        g.put(0, 2, 4);
        g.put(2, 0, 1);
        g.take(0, 2);
        g.take(2, 4);
        g.slander(1, -1);
        g.suspect(0);
        g.take(1, 3);
        g.suspect(3);
        g.suspect(5);
        g.set(2, 9);
        g.slander(5, 1);
        Boundary.is("0 in it, 1 by its count, wronged by 2", g.ifTried(0) * 10 + g.ifTried(2), 21);
        Boundary.is("4 would become a suspect, 5 stay one, 3 not", g.ifTried(1), 2);
        Boundary.is("as trial tells", g.trial() * 10 + g.count(9), 21);
        Boundary.is("as they are then", Boundary.suspects(g), "4 5");
        Boundary.is("only those to come", g.ifTried(0) * 10 + g.ifTried(2), 0);
    }

    @Boundary.Holds(in = "Promise 25", says = "Tells what a trial would do.")
    static void promise25ByRanks() {
        for (int[] ranks : new int[][] {{1, 5}, {5, 1}, {5, 5}}) {
            for (int[] pair : new int[][] {{0, 1}, {1, 0}, {23, 22}, {22, 23}}) {
                boolean firstEndsFirst = ranks[0] > ranks[1] || ranks[0] == ranks[1] && pair[0] < pair[1];
                int wronged = firstEndsFirst ? 2 : 1;
                GossipCounts g = pairOnTrial(pair[0], ranks[0], pair[1], ranks[1]);
                String what = pair[0] + " of rank " + ranks[0] + ", " + pair[1] + " of rank " + ranks[1];
                Boundary.is(what, g.ifTried(0) * 10 + g.ifTried(2), 40 + wronged);
                Boundary.is(what + ", as trial does", g.trial() * 10 + g.count(9), 40 + wronged);
            }
        }
    }

    /** Both end in a trial; if 3 is heard of before 4, which holds it, both of these are wronged, otherwise 4 alone. */
    private static GossipCounts pairOnTrial(int first, int firstRank, int second, int secondRank) {
        GossipCounts g = Boundary.quick(0);
        for (int n = 0; n < 24; n++) {
            g.add(n == first ? firstRank : n == second ? secondRank : 0);
        }
        g.put(first, 0, second);
        g.put(first, 1, 2);
        g.put(first, 2, 3);
        g.put(second, 0, 4);
        g.put(2, 0, 4);
        g.put(4, 0, 3);
        g.take(0, 2);
        g.slander(4, -1);
        g.slander(3, -1);
        g.suspect(first);
        return g;
    }

    @Boundary.Holds(in = "Promise 25", says = "Throws `IllegalArgumentException` if what is not 0 to 2")
    static void promise25What0To2() {
        Boundary.allows("0", 1, Boundary::busy, x -> x.ifTried(0));
        Boundary.allows("2", 0, Boundary::busy, x -> x.ifTried(2));
        for (int wrong : new int[] {-1, 3, FAR[0], FAR[3]}) {
            Boundary.refuses("what " + wrong, Boundary.ARGUMENT, Boundary::busy, x -> x.ifTried(wrong));
        }
    }

    // ---- 26: ring

    @Boundary.Holds(in = "Promise 26", says = {"Finds the ring of a thing.", "Returns the things that it reaches and "
            + "that reach it, as a bit mask (it is among them just if it reaches itself); 0 if there are none, or it "
            + "has ended."})
    static void promise26BitMask() {
        GossipCounts g = Boundary.slow(24);
        Boundary.is("none", g.ring(0), 0);
        g.put(0, 0, 0);
        Boundary.is("bit 0", g.ring(0), 1);
        g.put(23, 3, 23);
        Boundary.is("bit 23", g.ring(23), 1 << 23);
        g.put(23, 0, 0);
        Boundary.is("it reaches 0, which does not reach it", g.ring(23), 1 << 23);
        g.put(0, 1, 23);
        Boundary.is("both", g.ring(0), 1 << 23 | 1);
        g.put(0, 0, 5);
        g.put(0, 2, 7);
        g.put(7, 0, 23);
        Boundary.is("not 5, which reaches neither, but 7", g.ring(23), 1 << 23 | 1 << 7 | 1);
        Boundary.is("5 has none", g.ring(5), 0);
        Boundary.allows("has ended", 0, Boundary::busy, x -> x.ring(1));
        Boundary.allows("held itself, and has ended", 0, () -> {
            GossipCounts q = Boundary.quick(1);
            q.put(0, 0, 0);
            q.slander(0, -1);
            return q;
        }, x -> x.ring(0));
        Boundary.changesNothing("it", Boundary::busy, x -> x.ring(3));
    }

    @Boundary.Holds(in = "Promise 26", says = {"`thing`: its number",
        "Throws `IndexOutOfBoundsException` if there is no such thing"})
    static void promise26NoSuchThing() {
        Boundary.allows("the last one", 0, Boundary::busy, x -> x.ring(4));
        for (int wrong : new int[] {-1, 5, 24, FAR[0], FAR[3]}) {
            Boundary.refuses("thing " + wrong, Boundary.INDEX, Boundary::busy, x -> x.ring(wrong));
        }
        Boundary.refuses("thing 24 of 24", Boundary.INDEX, () -> Boundary.slow(24), x -> x.ring(24));
    }

    // ---- 27: bestCut

    @Boundary.Holds(in = "Promise 27", says = {"Finds the hand or slot by which most things would be let go.",
        "`what`: 0: the hand, as its number, or the slot, as 4 + 4 * thing + slot, so that most of the things that are "
            + "reached would not be, if it held nothing; of several the lowest number; 1: how many these things would "
            + "be", "Returns the number; NONE for 0 if no hand or slot would let anything go; 0 for 1 then."})
    static void promise27BestCut() {
        Boundary.allows("nothing is held", "-1 0", () -> Boundary.slow(24), Promises23To30Test::cut);
        Boundary.allows("no things", "-1 0", GossipCounts::new, Promises23To30Test::cut);
        GossipCounts g = Boundary.slow(24);
        g.put(0, 0, 1);
        Boundary.is("held, but not reached", cut(g), "-1 0");
        g.take(3, 23);
        Boundary.is("hand 3, one thing", cut(g), "3 1");
        g.take(0, 23);
        Boundary.is("two hands hold it: neither lets it go", cut(g), "-1 0");
        g.put(23, 3, 22);
        Boundary.is("the last slot of all", cut(g), "99 1");
        g.put(23, 0, 21);
        Boundary.is("of several the lowest number", cut(g), "96 1");
        g.put(22, 0, 20);
        Boundary.is("most things, not the lowest number", cut(g), "99 2");
        g.take(0, NONE);
        Boundary.is("all but two are not reached", cut(g), "3 4");
        g.take(1, 0);
        Boundary.is("the hand by which more are let go", cut(g), "3 4");
        GossipCounts two = Boundary.slow(2);
        two.take(2, 0);
        two.take(1, 1);
        Boundary.is("of two hands the lower", cut(two), "1 1");
        two.put(0, 0, 1);
        Boundary.is("1 is held twice: only 0 is let go", cut(two), "2 1");
        two.put(1, 0, 0);
        Boundary.is("each holds the other: none is let go", cut(two), "-1 0");
        GossipCounts first = Boundary.slow(2);
        first.take(0, 0);
        first.take(1, 0);
        first.put(0, 0, 1);
        Boundary.is("the first slot", cut(first), "4 1");
        GossipCounts hand = Boundary.slow(24);
        for (int n = 0; n < 23; n++) {
            hand.put(n, 0, n + 1);
        }
        hand.take(0, 0);
        Boundary.is("all 24 by hand 0", cut(hand), "0 24");
        Boundary.changesNothing("it", Boundary::busy, Promises23To30Test::cut);
    }

    private static Object cut(GossipCounts g) {
        return g.bestCut(0) + " " + g.bestCut(1);
    }

    @Boundary.Holds(in = "Promise 27", says = "Throws `IllegalArgumentException` if what is not 0 or 1")
    static void promise27What0Or1() {
        Boundary.allows("0", 0, Boundary::busy, x -> x.bestCut(0));
        Boundary.allows("1", 2, Boundary::busy, x -> x.bestCut(1));
        for (int wrong : new int[] {-1, 2, FAR[0], FAR[3]}) {
            Boundary.refuses("what " + wrong, Boundary.ARGUMENT, Boundary::busy, x -> x.bestCut(wrong));
        }
    }

    // ---- 28: bears

    @Boundary.Holds(in = "Promise 28", says = {"Tells how much slander a thing can bear.", "Returns the least number of "
            + "false reports of -1, made now one after the other, by which the thing would have ended 30 ticks later, "
            + "if nothing else was done; 0 if it would have ended then by itself, or has ended; NONE if there is none "
            + "up to 12."})
    static void promise28Slanders0To12() {
        for (int count = 0; count <= 14; count++) {
            int n = count;
            Object due = n > 12 ? NONE : Math.max(n, 1);
            Boundary.allows("with a count of " + n, due, () -> toldOf(n), x -> x.bears(0));
            Boundary.allows("heard only later, with a count of " + n, due, () -> {
                GossipCounts g = toldOf(n);
                g.set(0, 20);
                return g;
            }, x -> x.bears(0));
        }
        Boundary.allows("has ended", 0, Boundary::busy, x -> x.bears(1));
        Boundary.changesNothing("it", Boundary::busy, x -> x.bears(0));
        GossipCounts proofs = toldOf(1);
        proofs.set(3, 1);
        Boundary.is("with proofs, not held", proofs.bears(0), 1);
        proofs.take(0, 0);
        Boundary.is("with proofs, held", proofs.bears(0), NONE);
    }

    /** Nothing holds thing 0, but it was told of so often. */
    private static GossipCounts toldOf(int times) {
        GossipCounts g = Boundary.quick(1);
        for (int n = 0; n < times; n++) {
            g.slander(0, 1);
        }
        return g;
    }

    @Boundary.Holds(in = "Promise 28", says = "Tells how much slander a thing can bear.")
    static void promise28AnyThing() {
        GossipCounts g = Boundary.quick(24);
        for (int thing = 0; thing < 24; thing++) {
            for (int n = 0; n <= thing % 4; n++) {
                g.slander(thing, 1);
            }
        }
        for (int thing = 0; thing < 24; thing++) {
            Boundary.is("bears " + thing, g.bears(thing), thing % 4 + 1);
        }
    }

    @Boundary.Holds(in = "Promise 28", says = "by which the thing would have ended 30 ticks later")
    static void promise28ThirtyTicksLater() {
        // The 4 slots of its own leave no rest behind one slander, so the next trial ends it.
        for (int ticks : new int[] {29, 30, 31}) {
            GossipCounts g = Boundary.quick(1);
            for (int slot = 0; slot < 4; slot++) {
                g.put(0, slot, 0);
            }
            g.pass(50 - ticks);
            g.set(4, 50);
            Boundary.is("a trial in " + ticks + " ticks", g.bears(0), ticks <= 30 ? 1 : 4);
            g.suspect(0);
            Boundary.is("by itself in " + ticks + " ticks", g.bears(0), ticks <= 30 ? 0 : 4);
        }
        GossipCounts chain = chain(3);
        chain.pass(9);
        Boundary.is("1 ends in 31 ticks, and no slander makes that sooner", chain.endsIn(1) * 10 + chain.bears(1), 309);
        chain.pass(1);
        Boundary.is("1 ends in 30 ticks by itself", chain.endsIn(1) * 10 + chain.bears(1), 300);
        GossipCounts at = Boundary.late(Boundary.quick(1), 5000);
        at.set(0, 20);
        Boundary.is("the limit of 5000 does not matter", at.bears(0), 1);
    }

    @Boundary.Holds(in = "Promise 28", says = {"`thing`: its number",
        "Throws `IndexOutOfBoundsException` if there is no such thing"})
    static void promise28NoSuchThing() {
        Boundary.allows("the last one", 1, Boundary::busy, x -> x.bears(4));
        for (int wrong : new int[] {-1, 5, 24, FAR[0], FAR[3]}) {
            Boundary.refuses("thing " + wrong, Boundary.INDEX, Boundary::busy, x -> x.bears(wrong));
        }
        Boundary.refuses("thing 24 of 24", Boundary.INDEX, () -> Boundary.slow(24), x -> x.bears(24));
    }

    // ---- 29: reachedShare

    @Boundary.Holds(in = "Promise 29", says = {"Returns how many of the things that live are reached.",
        "Returns count(3), as a double, divided by count(2); 0.0 if that is 0."})
    static void promise29Share0To1() {
        Boundary.allows("no things", 0.0, GossipCounts::new, GossipCounts::reachedShare);
        Boundary.allows("all have ended", 0.0, () -> {
            GossipCounts g = Boundary.quick(1);
            g.slander(0, -1);
            return g;
        }, GossipCounts::reachedShare);
        GossipCounts g = Boundary.quick(24);
        for (int reached = 0; reached < 24; reached++) {
            Boundary.is(reached + " of 24", g.reachedShare(), reached / 24.0);
            if (reached == 0) {
                g.take(0, 0);
            } else {
                g.put(reached - 1, 0, reached);
            }
        }
        Boundary.is("all", g.reachedShare(), 1.0);
        Boundary.changesNothing("it", Boundary::busy, GossipCounts::reachedShare);
        GossipCounts less = Boundary.quick(3);
        less.take(0, 0);
        less.slander(2, -1);
        Boundary.is("of those that live", less.reachedShare(), 0.5);
    }

    // ---- 30: digest

    /** The list of the document, from the other calls; the text is what stands in the buffer. */
    private static List<Long> values(GossipCounts g, String text) {
        List<Long> v = new ArrayList<>();
        for (int what = 0; what <= 13; what++) {
            v.add((long) g.count(what));
        }
        for (int setting = 0; setting <= 4; setting++) {
            v.add((long) g.setting(setting));
        }
        for (int hand = 0; hand <= 3; hand++) {
            v.add((long) g.hand(hand));
        }
        for (int thing = 0; thing < g.count(1); thing++) {
            for (int what = 0; what <= 12; what++) {
                v.add((long) g.thing(thing, what));
            }
            for (int slot = 0; slot <= 3; slot++) {
                v.add((long) g.slot(thing, slot));
            }
            v.add((long) g.ring(thing));
            v.add((long) g.endsIn(thing));
        }
        for (int place = 0; place < g.count(5); place++) {
            for (int what = 0; what <= 4; what++) {
                v.add((long) g.report(place, what));
            }
        }
        for (int end = 0; end < g.count(7); end++) {
            v.add((long) g.ended(end));
        }
        for (int what = 0; what <= 3; what++) {
            v.add((long) g.ifPassed(20, what));
        }
        for (int what = 0; what <= 2; what++) {
            v.add((long) g.ifTried(what));
        }
        v.add((long) g.bestCut(0));
        v.add((long) g.bestCut(1));
        if (g.count(1) > 0) {
            v.add((long) g.bears(0));
        }
        v.add(Double.doubleToLongBits(g.reachedShare()));
        v.add((long) text.length());
        for (char c : text.toCharArray()) {
            v.add((long) c);
        }
        return v;
    }

    /** The hash as a number without bounds. */
    private static BigInteger hash(List<Long> values) {
        BigInteger hash = BigInteger.valueOf(2389);
        for (long v : values) {
            hash = hash.multiply(BigInteger.valueOf(31)).add(BigInteger.valueOf(v));
        }
        return hash;
    }

    @Boundary.Holds(in = "Promise 30", says = {"Computes a hash of the whole state. The hash starts at 2389. For each "
            + "value v of the following list, in order, the hash becomes 31 * hash + v, in long arithmetic with "
            + "overflow.", "Returns the hash."})
    static void promise30WrapsAround() {
        GossipCounts[] objects = {new GossipCounts(), Boundary.busy(), Boundary.quick(24), chain(24)};
        String[] texts = {"", "j;", "", ""};
        boolean low = false;
        boolean high = false;
        for (int n = 0; n < objects.length; n++) {
            BigInteger hash = hash(values(objects[n], texts[n]));
            Boundary.is("the hash without bounds is above any long", hash.bitLength() > 63, true);
            Boundary.is("its lowest 64 bits, object " + n, objects[n].digest(), hash.longValue());
            low = low || objects[n].digest() < 0;
            high = high || objects[n].digest() > 0;
        }
        Boundary.is("some are below 0, some above", low && high, true);
        Boundary.changesNothing("it", Boundary::busy, GossipCounts::digest);
    }

    @Boundary.Holds(in = "Promise 30", says = "The values are: count(0) to count(13); the settings 0 to 4; what each "
            + "hand holds; for each thing its properties 0 to 12, what each slot holds, ring, and endsIn; for each "
            + "report under way its parts 0 to 4; for each end the thing; ifPassed with 20 ticks and 0 to 3; ifTried "
            + "with 0 to 2; bestCut with 0 and 1; bears of thing 0 if there is one; the bits of reachedShare (as "
            + "Double.doubleToLongBits); the length of the buffer and each of its character codes.")
    static void promise30ValuesFromNoneToMost() {
        List<GossipCounts> objects = new ArrayList<>();
        List<String> texts = new ArrayList<>();
        for (int things : new int[] {0, 1, 24}) {
            for (String text : new String[] {"", "!", "~".repeat(60)}) {
                GossipCounts g = Boundary.typed(Boundary.slow(things), text);
                objects.add(g);
                texts.add(text);
                GossipCounts some = Boundary.typed(things > 0 ? chain(things) : new GossipCounts(), text);
                some.pass(1);
                objects.add(some);
                texts.add(text);
            }
        }
        for (int ends : new int[] {1, 23, 24}) {
            GossipCounts g = Boundary.quick(24);
            for (int n = 0; n < ends; n++) {
                g.slander(n * 7 % 24, -1);
            }
            objects.add(g);
            texts.add("");
        }
        GossipCounts many = Boundary.slow(1);
        many.set(0, 20);
        for (int n = 0; n < 100; n++) {
            many.slander(0, 1);
        }
        objects.add(many);
        texts.add("");
        for (int n = 0; n < objects.size(); n++) {
            Boundary.is("object " + n + " with '" + texts.get(n) + "'", objects.get(n).digest(),
                    hash(values(objects.get(n), texts.get(n))).longValue());
        }
    }

    @Boundary.Holds(in = "Promise 30", says = "ifPassed with 20 ticks and 0 to 3")
    static void promise30TwentyTicks() {
        GossipCounts g = Boundary.quick(6);
        g.put(0, 0, 1);
        g.take(0, 2);
        Boundary.delays(g, 20, 20, 20);
        g.slander(2, -1);
        g.set(0, 19);
        g.slander(0, -1);
        g.pass(1);
        g.slander(3, -1);
        g.slander(5, -1);
        // Ends are due in 18, 19, 19 and 20 ticks: of 0, 2, 3 and 5; that of 1 is due in 38.
        Boundary.is("when they are due", g.endsIn(0) + " " + g.endsIn(2) + " " + g.endsIn(3) + " " + g.endsIn(5) + " "
                + g.endsIn(1), "18 19 19 20 38");
        Boundary.is("the digest", g.digest(), hash(values(g, "")).longValue());
        for (int ticks : new int[] {19, 20, 21}) {
            GossipCounts chain = chain(2);
            if (ticks < 20) {
                chain.pass(1);
            } else if (ticks > 20) {
                chain.pass(19);
            }
            int thing = ticks > 20 ? 1 : 0;
            Boundary.is("due in " + ticks, chain.endsIn(thing), ticks);
            Boundary.is("the digest with that", chain.digest(), hash(values(chain, "")).longValue());
        }
    }

    @Boundary.Holds(in = "Promise 30", says = "bears of thing 0 if there is one")
    static void promise30BearsOfThing0() {
        for (int count = 0; count <= 13; count++) {
            GossipCounts g = toldOf(count);
            g.add(0);
            Boundary.is("with a count of " + count, g.digest(), hash(values(g, "")).longValue());
        }
        GossipCounts ended = Boundary.quick(1);
        ended.slander(0, -1);
        Boundary.is("thing 0 has ended", ended.digest(), hash(values(ended, "")).longValue());
        Boundary.is("no thing", new GossipCounts().digest(), hash(values(new GossipCounts(), "")).longValue());
    }

    @Boundary.Holds(in = "Promise 30", says = "the bits of reachedShare (as Double.doubleToLongBits)")
    static void promise30BitsOfEachShare() {
        for (int living = 0; living <= 24; living++) {
            GossipCounts g = Boundary.quick(living);
            for (int reached = 0; reached <= living; reached++) {
                Boundary.is("the share", g.reachedShare(), living == 0 ? 0.0 : (double) reached / living);
                Boundary.is(reached + " of " + living, g.digest(), hash(values(g, "")).longValue());
                if (reached == 0 && living > 0) {
                    g.take(3, 0);
                } else if (reached < living) {
                    g.put(reached - 1, 1, reached);
                }
            }
        }
    }
}
