/** Terms: counts and reports; each sentence on both sides of its boundaries. */
public final class TermsOfReportsTest {
    private static final int NONE = Boundary.NONE;

    public static void main(String[] args) {
        Boundary.runAll(TermsOfReportsTest.class);
    }

    @Boundary.Holds(in = "Counts and reports", says = "Each thing has a count, at first 0, as gossips tell it (it "
            + "may be below 0).")
    static void termCountsMayBeBelow0() {
        GossipCounts g = Boundary.quick(1);
        Boundary.is("at first", g.thing(0, 2), 0);
        g.set(0, 5);
        g.slander(0, 1);
        g.set(0, 0);
        g.slander(0, -1);
        Boundary.is("below 0, and lives", g.thing(0, 2) * 10 + g.thing(0, 0), -9);
        g.slander(0, -1);
        Boundary.is("still below", g.thing(0, 2) * 10 + g.thing(0, 0), -19);
    }

    @Boundary.Holds(in = "Counts and reports", says = "When a slot or a hand is changed, there is a report of +1 for "
            + "the thing that it holds then, and then one of -1 for the thing that it held (none for nothing; both "
            + "also if it is the same thing).")
    static void termCountsReportsOfAHand() {
        GossipCounts g = Boundary.slow(2);
        Boundary.delays(g, 9, 9, 9);
        g.take(1, NONE);
        Boundary.is("nothing for nothing", Boundary.underWay(g), "");
        g.take(1, 0);
        Boundary.is("a thing for nothing", Boundary.underWay(g), "0:0,1,9,0");
        g.take(1, 1);
        Boundary.is("another thing", Boundary.underWay(g), "0:0,1,9,0 1:1,1,9,0 2:0,-1,9,0");
        g.pass(9);
        g.take(1, 1);
        Boundary.is("the same thing", Boundary.underWay(g), "3:1,1,18,0 4:1,-1,18,0");
        g.take(1, NONE);
        Boundary.is("nothing for a thing", Boundary.underWay(g), "3:1,1,18,0 4:1,-1,18,0 5:1,-1,18,0");
    }

    @Boundary.Holds(in = "Counts and reports", says = "When a slot or a hand is changed, there is a report of +1 for "
            + "the thing that it holds then, and then one of -1 for the thing that it held (none for nothing; both "
            + "also if it is the same thing).")
    static void termCountsReportsOfASlot() {
        GossipCounts g = Boundary.slow(3);
        Boundary.delays(g, 9, 9, 9);
        g.put(2, 3, NONE);
        Boundary.is("nothing for nothing", Boundary.underWay(g), "");
        g.put(2, 3, 0);
        Boundary.is("a thing for nothing", Boundary.underWay(g), "0:0,1,9,0");
        g.put(2, 3, 1);
        Boundary.is("another thing", Boundary.underWay(g), "0:0,1,9,0 1:1,1,9,0 2:0,-1,9,0");
        g.pass(9);
        g.put(2, 3, 1);
        Boundary.is("the same thing", Boundary.underWay(g), "3:1,1,18,0 4:1,-1,18,0");
        g.put(2, 3, 2);
        Boundary.is("itself for a thing", Boundary.underWay(g), "3:1,1,18,0 4:1,-1,18,0 5:2,1,18,0 6:1,-1,18,0");
        g.pass(8);
        g.put(2, 3, NONE);
        g.pass(1);
        Boundary.is("nothing for itself", Boundary.underWay(g), "7:2,-1,26,0");
    }

    @Boundary.Holds(in = "Counts and reports", says = "There are 3 gossips, numbered from 0; those of number g hear "
            + "the reports for all things whose number modulo 3 is g.")
    static void termCountsGossipByNumberModulo3() {
        for (int thing = 0; thing < 24; thing++) {
            GossipCounts g = Boundary.slow(24);
            Boundary.delays(g, 4, 7, 11);
            g.slander(thing, 1);
            Boundary.is("due for " + thing, g.report(0, 3), new int[] {4, 7, 11}[thing % 3]);
        }
        Boundary.allows("gossip 0", 1, GossipCounts::new, x -> x.setting(0));
        Boundary.allows("gossip 2", 2, GossipCounts::new, x -> x.setting(2));
    }

    @Boundary.Holds(in = "Counts and reports", says = "A report is due at the time plus setting g, as it is when the "
            + "report is made.")
    static void termCountsDueTime() {
        GossipCounts g = Boundary.slow(1);
        g.pass(6);
        g.set(0, 20);
        g.slander(0, 1);
        Boundary.is("6 + 20", Boundary.underWay(g), "0:0,1,26,1");
        g.set(0, 0);
        g.set(0, 3);
        Boundary.is("whatever is set later", Boundary.underWay(g), "0:0,1,26,1");
        g.pass(19);
        Boundary.is("not heard at 25", g.count(5) * 10 + g.thing(0, 2), 10);
        g.pass(1);
        Boundary.is("heard at 26", g.count(5) * 10 + g.thing(0, 2), 1);
        g.set(0, 0);
        g.slander(0, 1);
        Boundary.is("with 0 heard at once", g.count(5) * 10 + g.thing(0, 2), 2);
        g.set(0, 1);
        g.slander(0, 1);
        Boundary.is("with 1 not at once", g.count(5) * 10 + g.thing(0, 2), 12);
        g.pass(1);
        Boundary.is("but in the next tick", g.count(5) * 10 + g.thing(0, 2), 3);
    }

    @Boundary.Holds(in = "Counts and reports", says = "Reports have numbers, from 0 in the order in which they were "
            + "made, and are heard in the order of their due times, those with the same one in the order of their "
            + "numbers.")
    static void termCountsOrderOfReports() {
        GossipCounts g = Boundary.slow(3);
        Boundary.is("the first number", g.slander(1, 1), 0);
        g.slander(0, 1);
        g.slander(2, 1);
        g.slander(0, 1);
        g.slander(2, -1);
        Boundary.is("by due times, then numbers", Boundary.underWay(g),
                "1:0,1,1,1 3:0,1,1,1 2:2,1,2,1 4:2,-1,2,1 0:1,1,3,1");
        g.pass(1);
        g.slander(2, 1);
        g.slander(0, -1);
        Boundary.is("made later, due at the same time", Boundary.underWay(g),
                "2:2,1,2,1 4:2,-1,2,1 6:0,-1,2,1 0:1,1,3,1 5:2,1,3,1");
    }

    @Boundary.Holds(in = "Counts and reports", says = "those with the same one in the order of their numbers")
    static void termCountsOrderOfHearing() {
        GossipCounts g = Boundary.slow(7);
        g.slander(3, -1);
        g.slander(0, -1);
        g.slander(6, -1);
        Boundary.is("three end in the tick", g.pass(1), 3);
        Boundary.is("in the order of the reports", Boundary.ends(g), "3 0 6");
        GossipCounts h = Boundary.slow(3);
        h.slander(1, -1);
        h.pass(1);
        h.slander(2, -1);
        h.pass(1);
        h.slander(0, -1);
        Boundary.is("all due at 3", h.pass(1), 3);
        Boundary.is("in the order of the reports", Boundary.ends(h), "1 2 0");
    }

    @Boundary.Holds(in = "Counts and reports", says = "When a report is heard, the count of its thing changes by it.")
    static void termCountsChangeByReports() {
        GossipCounts g = Boundary.quick(2);
        g.slander(0, 1);
        Boundary.is("+1", g.thing(0, 2), 1);
        g.slander(0, 1);
        Boundary.is("+1 again", g.thing(0, 2), 2);
        g.slander(0, -1);
        Boundary.is("-1", g.thing(0, 2), 1);
        Boundary.is("not the count of another", g.thing(1, 2), 0);
        Boundary.is("the report is under way no longer", g.count(5), 0);
    }

    @Boundary.Holds(in = "Counts and reports", says = "A report for a thing that has ended is heard, and changes "
            + "nothing.")
    static void termCountsNoThingEndsWithReportsUnderWay() {
        // There is no such report to be made: a report under way keeps a thing from its end, and none is made behind.
        GossipCounts g = Boundary.quick(2);
        g.put(0, 0, 1);
        g.put(1, 0, 0);
        g.put(1, 1, 1);
        g.set(1, 4);
        g.slander(0, -1);
        Boundary.is("0 has ended, wronged by 1, without a report for it", g.thing(0, 12) * 10 + g.thing(0, 4), 10);
        Boundary.is("its report for 1 is under way", g.thing(1, 4), 1);
        g.suspect(1);
        Boundary.is("which keeps 1 in a trial", g.trial() * 10 + g.thing(1, 6), 1);
        g.set(1, 0);
        g.slander(1, -1);
        g.slander(1, -1);
        Boundary.is("and by its count", g.thing(1, 0) * 10 + g.thing(1, 2), 10);
        Boundary.refuses("nor can one that ended be slandered", Boundary.STATE, Boundary::busy, x -> x.slander(1, 1));
        g.pass(4);
        Boundary.is("heard, then it ends", g.thing(1, 0) * 10 + g.count(5), 0);
        Boundary.is("with the count as it was last", g.thing(1, 2), -1);
        g.pass(100);
        Boundary.is("which stays", g.thing(1, 2) * 10 + g.count(7), -8);
    }

    // ---- behind a report of -1

    /** Thing 0 has this count, and no report for it is under way; all delays are 0. */
    private static GossipCounts withCount(int count) {
        GossipCounts g = Boundary.quick(3);
        for (int n = 0; n < count; n++) {
            g.slander(0, 1);
        }
        if (count < 0) {
            // What is below 0 lives on only while a report is under way, so a +1 is heard last.
            g.set(0, 5);
            g.slander(0, 1);
            g.set(0, 0);
            for (int n = 0; n <= -count; n++) {
                g.slander(0, -1);
            }
            g.pass(5);
        }
        return g;
    }

    /** What became of thing 0. */
    private static String fate(GossipCounts g) {
        String[] kinds = {"lives", "ended by its count", "ended in a trial"};
        return kinds[g.thing(0, 11)] + " with " + g.thing(0, 2) + (g.thing(0, 6) == 1 ? ", a suspect" : "");
    }

    @Boundary.Holds(in = "Counts and reports", says = {"Behind a report of -1 that is heard for a thing that lives:",
        "If its count is at most 0, and no report for it is under way: with setting 3 as 0 the thing ends by its "
            + "count."})
    static void termCountsEndsWithACountOfAtMost0() {
        int[] counts = {2, 1, 0, -1};
        String[] fates = {"lives with 1, a suspect", "ended by its count with 0", "ended by its count with -1",
            "ended by its count with -2"};
        for (int n = 0; n < 4; n++) {
            GossipCounts g = withCount(counts[n]);
            g.slander(0, -1);
            Boundary.is("-1 for a count of " + counts[n], fate(g), fates[n]);
        }
    }

    @Boundary.Holds(in = "Counts and reports", says = "Behind a report of -1 that is heard for a thing that lives:")
    static void termCountsNothingBehindAReportOfPlus1() {
        GossipCounts below = withCount(-2);
        below.slander(0, 1);
        Boundary.is("from -2 to -1", fate(below), "lives with -1");
        below.slander(0, 1);
        Boundary.is("from -1 to 0", fate(below), "lives with 0");
        below.slander(0, 1);
        Boundary.is("from 0 to 1, no suspect", fate(below), "lives with 1");
        GossipCounts proofs = withCount(-2);
        proofs.set(3, 1);
        proofs.take(0, 0);
        Boundary.is("no slander is found by a +1", fate(proofs) + proofs.count(10), "lives with -10");
    }

    @Boundary.Holds(in = "Counts and reports", says = "and no report for it is under way")
    static void termCountsAReportUnderWayKeepsIt() {
        for (int by : new int[] {-1, 1}) {
            GossipCounts g = withCount(1);
            g.set(0, 2);
            g.slander(0, by);
            g.set(0, 0);
            g.slander(0, -1);
            Boundary.is("one of " + by + " is under way", fate(g), "lives with 0");
            g.pass(2);
            Boundary.is("behind it", fate(g), by == 1 ? "lives with 1" : "ended by its count with -1");
        }
        GossipCounts other = withCount(1);
        other.set(1, 2);
        other.slander(1, -1);
        other.slander(0, -1);
        Boundary.is("one for another thing is under way", fate(other), "ended by its count with 0");
        GossipCounts both = withCount(1);
        both.set(0, 1);
        both.slander(0, -1);
        both.slander(0, -1);
        both.pass(1);
        Boundary.is("two that are due together: it ends behind the last", fate(both), "ended by its count with -1");
    }

    @Boundary.Holds(in = "Counts and reports", says = "If its count is at most 0, and no report for it is under way: "
            + "with setting 3 as 0 the thing ends by its count.")
    static void termCountsAnyThing() {
        for (int thing = 0; thing < 24; thing++) {
            GossipCounts g = Boundary.quick(24);
            g.slander(thing, 1);
            g.slander(thing, 1);
            g.slander(thing, -1);
            Boundary.is(thing + " lives with 1, a suspect", g.thing(thing, 2) * 10 + g.count(4), 11);
            g.set(thing % 3, 1);
            g.slander(thing, 1);
            g.set(thing % 3, 0);
            g.slander(thing, -1);
            Boundary.is("a report for it is under way", g.thing(thing, 0) * 100 + g.thing(thing, 2) * 10
                    + g.thing(thing, 4), 101);
            g.pass(1);
            g.slander(thing, -1);
            Boundary.is("none is under way", Boundary.ends(g), "" + thing);
            Boundary.is("no others end", g.count(2) * 10 + g.count(5), 230);
        }
    }

    @Boundary.Holds(in = "Counts and reports", says = "With setting 3 as 1 it does only if its truth is 0; otherwise "
            + "its count becomes its truth, and slander is found (it becomes no suspect by that).")
    static void termCountsProofsLookAtTheTruth() {
        for (int truth = 0; truth <= 4; truth++) {
            GossipCounts g = Boundary.quick(1);
            for (int hand = 0; hand < truth; hand++) {
                g.take(hand, 0);
            }
            g.set(0, 1);
            for (int n = 0; n <= truth; n++) {
                g.slander(0, -1);
            }
            g.set(3, 1);
            g.pass(1);
            Boundary.is("truth " + truth, g.thing(0, 2) + (g.thing(0, 0) == 1 ? " lives" : " ended"),
                    truth == 0 ? "-1 ended" : truth + " lives");
            Boundary.is("truth " + truth + ", slander found", g.count(10), truth == 0 ? 0 : 1);
        }
    }

    @Boundary.Holds(in = "Counts and reports", says = "with setting 3 as 0 the thing ends by its count. With setting "
            + "3 as 1 it does only if its truth is 0")
    static void termCountsProofsOrNot() {
        GossipCounts without = Boundary.quick(1);
        without.take(0, 0);
        without.slander(0, -1);
        Boundary.is("without proofs it ends", fate(without) + without.count(10), "ended by its count with 00");
        GossipCounts with = Boundary.quick(1);
        with.set(3, 1);
        with.take(0, 0);
        with.slander(0, -1);
        Boundary.is("with proofs it lives", fate(with) + with.count(10), "lives with 11");
        with.take(0, NONE);
        Boundary.is("until nothing holds it", fate(with) + with.count(10), "ended by its count with 01");
        GossipCounts slot = Boundary.quick(1);
        slot.set(3, 1);
        slot.put(0, 0, 0);
        slot.slander(0, -1);
        Boundary.is("its own slot is a truth", fate(slot) + slot.count(10), "lives with 11");
    }

    @Boundary.Holds(in = "Counts and reports", says = "(it becomes no suspect by that)")
    static void termCountsProofsMakeNoSuspect() {
        GossipCounts g = Boundary.quick(1);
        g.set(3, 1);
        g.take(0, 0);
        g.slander(0, -1);
        Boundary.is("no suspect", fate(g), "lives with 1");
        g.take(1, 0);
        g.slander(0, -1);
        Boundary.is("a count above 0 makes it one", fate(g), "lives with 1, a suspect");
        g.slander(0, -1);
        Boundary.is("what was one stays one", fate(g) + g.count(10), "lives with 2, a suspect2");
    }

    @Boundary.Holds(in = "Counts and reports", says = "otherwise its count becomes its truth, and slander is found")
    static void termCountsProofsWaitForReports() {
        GossipCounts g = Boundary.quick(1);
        g.set(3, 1);
        g.take(0, 0);
        g.set(0, 2);
        g.slander(0, 1);
        g.set(0, 0);
        g.slander(0, -1);
        Boundary.is("a report is under way: nothing is found", fate(g) + g.count(10), "lives with 00");
        g.slander(0, -1);
        Boundary.is("nor behind the next", fate(g) + g.count(10), "lives with -10");
        g.pass(2);
        Boundary.is("nor behind the +1", fate(g) + g.count(10), "lives with 00");
        g.slander(0, -1);
        Boundary.is("but behind this one", fate(g) + g.count(10), "lives with 11");
        GossipCounts above = Boundary.quick(1);
        above.set(3, 1);
        above.take(0, 0);
        above.slander(0, 1);
        above.slander(0, -1);
        Boundary.is("with a count above 0 nothing is found", fate(above) + above.count(10), "lives with 1, a suspect0");
    }

    @Boundary.Holds(in = "Counts and reports", says = "If its count is above 0, the thing becomes a suspect (once).")
    static void termCountsSuspectAbove0() {
        GossipCounts g = withCount(3);
        g.slander(0, -1);
        Boundary.is("with 2", fate(g) + g.count(4), "lives with 2, a suspect1");
        g.slander(0, -1);
        Boundary.is("with 1, once", fate(g) + g.count(4), "lives with 1, a suspect1");
        GossipCounts zero = withCount(1);
        zero.set(0, 3);
        zero.slander(0, 1);
        zero.set(0, 0);
        zero.slander(0, -1);
        Boundary.is("with 0, and a report under way", fate(zero) + zero.count(4), "lives with 00");
        GossipCounts awaited = withCount(2);
        awaited.set(0, 3);
        awaited.slander(0, 1);
        awaited.set(0, 0);
        awaited.slander(0, -1);
        Boundary.is("with 1, and a report under way", fate(awaited), "lives with 1, a suspect");
    }

    // ---- when reports are heard

    @Boundary.Holds(in = "Counts and reports", says = "Reports that are due are heard in each tick, as told there, "
            + "and as soon as the change of a slot or a hand (with both its reports), the slander, or the trial of "
            + "one suspect that made them is over.")
    static void termCountsHeardAsSoonAsTheChangeIsOver() {
        GossipCounts g = Boundary.quick(2);
        g.take(0, 0);
        Boundary.is("of a hand", fate(g) + g.count(5), "lives with 10");
        g.take(0, 0);
        Boundary.is("with both its reports: it does not end", fate(g) + g.count(5), "lives with 1, a suspect0");
        g.put(1, 0, 1);
        Boundary.is("of a slot", g.thing(1, 2), 1);
        g.put(1, 0, 1);
        Boundary.is("with both its reports", g.thing(1, 2) * 10 + g.thing(1, 0), 11);
        g.slander(1, 1);
        Boundary.is("the slander", g.thing(1, 2), 2);
        g.take(0, 1);
        Boundary.is("another thing: the one let go ends", fate(g), "ended by its count with 0");
        GossipCounts each = Boundary.slow(1);
        each.set(0, 2);
        each.slander(0, 1);
        each.pass(1);
        Boundary.is("not in the first tick", each.count(5), 1);
        each.pass(1);
        Boundary.is("in the second", each.count(5), 0);
    }

    @Boundary.Holds(in = "Counts and reports", says = "the trial of one suspect that made them is over")
    static void termCountsHeardBehindTheTrialOfOneSuspect() {
        // 0 and 1 end together; each lets 3 go, which 2 holds, too, and 2 is held by a hand. Slander took 2 off 3's
        // count, so that 3 ends behind the second report, which must be behind both ends.
        GossipCounts g = Boundary.quick(4);
        g.put(0, 0, 1);
        g.put(0, 1, 3);
        g.put(1, 1, 3);
        g.put(0, 2, 2);
        g.put(2, 0, 3);
        g.take(0, 2);
        g.slander(3, -1);
        g.slander(3, -1);
        g.suspect(0);
        Boundary.is("three end", g.trial(), 3);
        Boundary.is("both of the trial first", Boundary.ends(g), "0 1 3");
        Boundary.is("heard when the trial is over", g.count(5) + g.thing(3, 2), -1);
        // What the trial of 0 lets go is heard before 1 is tried, which then is no suspect any more.
        GossipCounts h = Boundary.quick(2);
        h.put(0, 0, 0);
        h.put(0, 1, 1);
        h.suspect(0);
        h.suspect(1);
        h.slander(1, 1);
        Boundary.is("0 ends, 1 has a rest", h.trial(), 1);
        Boundary.is("1 was tried behind the -1, as a count of 1", h.thing(1, 2) * 10 + h.thing(1, 6), 10);
    }

    @Boundary.Holds(in = "Counts and reports", says = "Those that are made meanwhile (by ends) and are due, too, are "
            + "heard in their turn.")
    static void termCountsHeardInTheirTurn() {
        GossipCounts chain = Boundary.quick(24);
        for (int n = 0; n < 23; n++) {
            chain.put(n, 0, n + 1);
        }
        chain.slander(0, -1);
        Boundary.is("the longest chain ends in one call", chain.count(7) * 100 + chain.count(2), 2400);
        GossipCounts turns = Boundary.quick(5);
        turns.put(0, 0, 1);
        turns.put(0, 1, 2);
        turns.put(1, 0, 3);
        turns.put(2, 0, 4);
        turns.slander(0, -1);
        Boundary.is("in their turn: not one's own before another's", Boundary.ends(turns), "0 1 2 3 4");
        GossipCounts later = Boundary.quick(2);
        later.put(0, 0, 1);
        later.set(1, 1);
        later.slander(0, -1);
        Boundary.is("one that is not due waits", Boundary.ends(later) + ", " + Boundary.underWay(later), "0, 2:1,-1,1,0");
        later.pass(1);
        Boundary.is("for its tick", Boundary.ends(later), "0 1");
        GossipCounts tick = Boundary.slow(2);
        tick.put(0, 0, 1);
        tick.pass(3);
        tick.set(1, 0);
        tick.slander(0, -1);
        Boundary.is("made in a tick and due in it", tick.pass(1) + ": " + Boundary.ends(tick), "2: 0 1");
    }
}
