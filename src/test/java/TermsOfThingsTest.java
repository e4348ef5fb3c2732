/** Terms: what the class is, and things and hands; each sentence on both sides of its boundaries. */
public final class TermsOfThingsTest {
    private static final int NONE = Boundary.NONE;

    public static void main(String[] args) {
        Boundary.runAll(TermsOfThingsTest.class);
    }

    // ---- what it is

    @Boundary.Holds(in = "What it is", says = "An object is used for at most 512 calls after it has been made; "
            + "what later calls answer is free.")
    static void termWhatItIsThe512thCallIsAnsweredRight() {
        GossipCounts g = new GossipCounts();
        g.add(0);
        g.put(0, 0, 0);
        for (int call = 3; call <= 511; call++) {
            g.put(0, 0, 0);
        }
        Boundary.is("call 512: 1 + 509 * 2 reports were made", g.slander(0, 1), 1019);
    }

    @Boundary.Holds(in = "What it is", says = "An object is used for at most 512 calls after it has been made; "
            + "what later calls answer is free.")
    static void termWhatItIsTheMostReportsThatCallsCanMake() {
        // 25 calls, then 485 with two reports each, all under way: what looks on can still make and hear more.
        for (int look = 0; look < 4; look++) {
            GossipCounts g = Boundary.slow(24);
            g.set(0, 20);
            g.take(0, 0);
            for (int call = 27; call <= 510; call++) {
                g.take(0, 0);
            }
            switch (look) {
                case 0 -> Boundary.is("reports under way", g.count(5), 969);
                case 1 -> Boundary.is("their last place", g.report(968, 0), 968);
                case 2 -> Boundary.is("behind 20 ticks", g.pass(20) * 10000 + g.thing(0, 2), 1);
                default -> Boundary.is("bears", g.bears(0), 1);
            }
        }
    }

    @Boundary.Holds(in = "What it is", says = "An object is used for at most 512 calls after it has been made; "
            + "what later calls answer is free.")
    static void termWhatItIsTheMostReportsThatAreHeard() {
        for (int look = 0; look < 4; look++) {
            GossipCounts g = Boundary.quick(1);
            g.take(0, 0);
            for (int call = 6; call <= 511; call++) {
                g.take(0, 0);
            }
            switch (look) {
                case 0 -> Boundary.is("reports were heard", g.count(6), 1013);
                case 1 -> Boundary.is("undo", g.undo(), 5);
                case 2 -> Boundary.is("bears", g.bears(0), 1);
                default -> Boundary.is("a trial would leave no suspect", g.ifTried(1), 0);
            }
        }
    }

    @Boundary.Holds(in = "What it is", says = "An object is used for at most 512 calls after it has been made; "
            + "what later calls answer is free.")
    static void termWhatItIsUndoIsTheLastCall() {
        GossipCounts g = Boundary.slow(1);
        for (int call = 2; call <= 511; call++) {
            g.put(0, 3, 0);
        }
        Boundary.is("call 512", g.undo(), 5);
    }

    // ---- things and hands

    @Boundary.Holds(in = "Terms", says = "All numbers are integers; divisions are rounded down.")
    static void termNumbersOnlyTheShareIsNoInteger() {
        GossipCounts g = Boundary.slow(3);
        g.take(0, 0);
        Boundary.is("it is not rounded", g.reachedShare(), 1.0 / 3.0);
        g.take(1, 1);
        Boundary.is("nor up", g.reachedShare(), 2.0 / 3.0);
    }

    @Boundary.Holds(in = "Exceptions", says = "The constants: `NONE = -1`: There is nothing to return; there is no "
            + "thing.")
    static void termNoneIsMinus1() {
        Boundary.is("the constant", GossipCounts.NONE, -1);
        GossipCounts g = Boundary.slow(1);
        Boundary.is("nothing to return", g.take(0, 0), -1);
        Boundary.is("there is no thing", g.take(0, -1), 0);
        Boundary.refuses("-2 is neither", Boundary.INDEX, () -> Boundary.slow(1), x -> x.take(0, -2));
    }

    @Boundary.Holds(in = "Things and hands", says = "There is a time in ticks, at first 0.")
    static void termThingsTimeIsAtFirst0() {
        GossipCounts g = new GossipCounts();
        Boundary.is("at first", g.count(0), 0);
        g.add(0);
        Boundary.is("other calls take no time", g.count(0), 0);
        g.pass(1);
        Boundary.is("behind a tick", g.count(0), 1);
    }

    @Boundary.Holds(in = "Things and hands", says = "There are at most 24 things, numbered from 0 in the order in "
            + "which they came (those that ended keep their numbers).")
    static void termThingsAtMost24() {
        GossipCounts g = new GossipCounts();
        for (int n = 0; n < 24; n++) {
            Boundary.is("thing " + n, g.add(n % 10), n);
        }
        Boundary.is("there are 24", g.count(1), 24);
        Boundary.refuses("a 25th", Boundary.STATE, () -> Boundary.quick(24), x -> x.add(0));
    }

    @Boundary.Holds(in = "Things and hands", says = "(those that ended keep their numbers)")
    static void termThingsThatEndedKeepTheirNumbers() {
        GossipCounts g = Boundary.quick(2);
        g.slander(0, -1);
        Boundary.is("the next number", g.add(5), 2);
        Boundary.is("0 is the one that ended", g.thing(0, 0), 0);
        Boundary.is("1 lives", g.thing(1, 0), 1);
        Boundary.is("2 has its rank", g.thing(2, 1), 5);
    }

    @Boundary.Holds(in = "Things and hands", says = "A thing has a rank, 0 to 9, and 4 slots, numbered from 0, each "
            + "of which holds a thing that lives, possibly itself, or nothing.")
    static void termThingsRank0To9() {
        GossipCounts g = new GossipCounts();
        Boundary.is("rank 0", g.thing(g.add(0), 1), 0);
        Boundary.is("rank 9", g.thing(g.add(9), 1), 9);
        Boundary.refuses("rank 10", Boundary.ARGUMENT, Boundary::busy, x -> x.add(10));
        Boundary.refuses("rank -1", Boundary.ARGUMENT, Boundary::busy, x -> x.add(-1));
    }

    @Boundary.Holds(in = "Things and hands", says = "4 slots, numbered from 0")
    static void termThingsSlots0To3() {
        for (int slot = 0; slot < 4; slot++) {
            GossipCounts g = Boundary.slow(2);
            g.put(0, slot, 1);
            for (int other = 0; other < 4; other++) {
                Boundary.is("put in " + slot + ", slot " + other, g.slot(0, other), other == slot ? 1 : NONE);
                Boundary.is("put in " + slot + ", slot of another", g.slot(1, other), NONE);
            }
        }
        for (int slot : new int[] {-1, 4}) {
            Boundary.refuses("slot " + slot, Boundary.INDEX, Boundary::busy, x -> x.put(0, slot, 2));
            Boundary.refuses("look at slot " + slot, Boundary.INDEX, Boundary::busy, x -> x.slot(0, slot));
        }
    }

    @Boundary.Holds(in = "Things and hands", says = "each of which holds a thing that lives, possibly itself, or "
            + "nothing")
    static void termThingsASlotHoldsItselfOrNothingButNoneThatEnded() {
        GossipCounts g = Boundary.busy();
        Boundary.is("itself", g.put(0, 2, 0), NONE);
        Boundary.is("is held", g.slot(0, 2), 0);
        Boundary.is("nothing", g.put(0, 2, NONE), 0);
        Boundary.is("is empty", g.slot(0, 2), NONE);
        Boundary.refuses("one that ended", Boundary.STATE, Boundary::busy, x -> x.put(0, 2, 1));
    }

    @Boundary.Holds(in = "Things and hands", says = "There are 4 hands, numbered from 0; each holds a thing that "
            + "lives, or nothing.")
    static void termThingsHands0To3() {
        for (int hand = 0; hand < 4; hand++) {
            GossipCounts g = Boundary.slow(1);
            g.take(hand, 0);
            for (int other = 0; other < 4; other++) {
                Boundary.is("taken by " + hand + ", hand " + other, g.hand(other), other == hand ? 0 : NONE);
            }
        }
        for (int hand : new int[] {-1, 4}) {
            Boundary.refuses("hand " + hand, Boundary.INDEX, Boundary::busy, x -> x.take(hand, 0));
            Boundary.refuses("look at hand " + hand, Boundary.INDEX, Boundary::busy, x -> x.hand(hand));
        }
        GossipCounts all = Boundary.slow(1);
        for (int hand = 0; hand < 4; hand++) {
            all.take(hand, 0);
        }
        Boundary.is("all four hold the same", all.thing(0, 3), 4);
        all.take(2, NONE);
        Boundary.is("one holds nothing", all.hand(2) * 10 + all.thing(0, 3), -7);
        Boundary.refuses("one that ended", Boundary.STATE, Boundary::busy, x -> x.take(1, 1));
    }

    @Boundary.Holds(in = "Things and hands", says = "At first a thing lives, and holds nothing, and hands hold "
            + "nothing.")
    static void termThingsAtFirst() {
        GossipCounts g = Boundary.slow(24);
        for (int thing = 0; thing < 24; thing++) {
            Boundary.is("lives: " + thing, g.thing(thing, 0), 1);
            for (int slot = 0; slot < 4; slot++) {
                Boundary.is("holds nothing: " + thing, g.slot(thing, slot), NONE);
            }
        }
        for (int hand = 0; hand < 4; hand++) {
            Boundary.is("hand " + hand, g.hand(hand), NONE);
        }
        Boundary.is("nothing is held", g.count(11), 0);
    }

    @Boundary.Holds(in = "Things and hands", says = "A thing reaches what it holds, and all that this reaches.")
    static void termThingsReachesAlongTheLongestChain() {
        GossipCounts up = Boundary.slow(24);
        GossipCounts down = Boundary.slow(24);
        for (int n = 0; n < 23; n++) {
            up.put(n, 0, n + 1);
            down.put(23 - n, 3, 22 - n);
        }
        up.take(0, 0);
        down.take(0, 23);
        Boundary.is("all 24, upwards", up.count(3), 24);
        Boundary.is("all 24, downwards", down.count(3), 24);
        Boundary.is("a chain is no ring", up.ring(0) + up.ring(23) + down.ring(0), 0);
        up.put(23, 0, 0);
        Boundary.is("all 24 in a ring", up.ring(11), (1 << 24) - 1);
        up.take(0, 23);
        up.put(11, 0, NONE);
        Boundary.is("23 and 0 to 11", up.count(3), 13);
    }

    @Boundary.Holds(in = "Things and hands", says = "A thing reaches what it holds, and all that this reaches.")
    static void termThingsReachesItselfOnlyIfItIsHeldSo() {
        GossipCounts g = Boundary.slow(2);
        g.put(0, 0, 1);
        Boundary.is("what holds another does not reach itself", g.ring(0), 0);
        g.put(0, 3, 0);
        Boundary.is("what holds itself does", g.ring(0), 1);
    }

    @Boundary.Holds(in = "Things and hands", says = "A thing is reached if a hand holds it, or if something that a "
            + "hand holds reaches it.")
    static void termThingsReached() {
        GossipCounts g = Boundary.slow(5);
        g.put(0, 0, 1);
        g.put(1, 0, 2);
        g.put(3, 0, 3);
        g.put(3, 1, 4);
        Boundary.is("no hand, none reached", g.count(3), 0);
        g.take(3, 1);
        Boundary.is("held by a hand", g.thing(1, 7), 1);
        Boundary.is("reached by what a hand holds", g.thing(2, 7), 1);
        Boundary.is("what holds that", g.thing(0, 7), 0);
        Boundary.is("what only holds itself", g.thing(3, 7), 0);
        Boundary.is("what only such a one holds", g.thing(4, 7), 0);
        Boundary.is("two", g.count(3), 2);
    }

    @Boundary.Holds(in = "Things and hands", says = "The truth about a thing is how many slots of things that live, "
            + "and hands, hold it.")
    static void termThingsTruth0To100() {
        GossipCounts g = Boundary.slow(24);
        Boundary.is("none", g.thing(0, 3), 0);
        for (int hand = 0; hand < 4; hand++) {
            g.take(hand, 0);
        }
        for (int thing = 0; thing < 24; thing++) {
            for (int slot = 0; slot < 4; slot++) {
                g.put(thing, slot, 0);
            }
        }
        Boundary.is("all slots and hands", g.thing(0, 3), 100);
        Boundary.is("all hold something", g.count(11), 100);
        Boundary.is("of another none", g.thing(23, 3), 0);
        g.put(23, 3, 23);
        Boundary.is("one less", g.thing(0, 3), 99);
        Boundary.is("its own slot counts, too", g.thing(23, 3), 1);
    }

    @Boundary.Holds(in = "Things and hands", says = "slots of things that live")
    static void termThingsTruthWithoutThoseThatEnded() {
        GossipCounts g = Boundary.quick(3);
        g.put(0, 0, 1);
        g.put(0, 1, 1);
        g.put(2, 0, 1);
        Boundary.is("three slots", g.thing(1, 3), 3);
        g.slander(0, -1);
        Boundary.is("of one that lives", g.thing(1, 3), 1);
    }
}
