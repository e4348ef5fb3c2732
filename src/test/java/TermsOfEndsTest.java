/** Terms: ends, trials, a tick and settings; each sentence on both sides of its boundaries. */
public final class TermsOfEndsTest {
    private static final int NONE = Boundary.NONE;

    public static void main(String[] args) {
        Boundary.runAll(TermsOfEndsTest.class);
    }

    // ---- ends

    @Boundary.Holds(in = "Ends", says = "When a thing ends, it lives no longer, is no suspect any more, and its slots "
            + "become empty one after the other, with a report of -1 for each thing that was held")
    static void termEndsSlotsOneAfterTheOther() {
        GossipCounts g = Boundary.quick(4);
        g.put(0, 0, 3);
        g.put(0, 1, 1);
        g.put(0, 2, 3);
        g.put(0, 3, 2);
        Boundary.delays(g, 9, 9, 9);
        g.suspect(0);
        g.pass(1);
        g.set(0, 0);
        g.slander(0, -1);
        Boundary.is("lives no longer", g.thing(0, 0) * 10 + g.count(2), 2);
        Boundary.is("is no suspect", g.thing(0, 6) * 10 + g.count(4), 0);
        for (int slot = 0; slot < 4; slot++) {
            Boundary.is("slot " + slot + " is empty", g.slot(0, slot), NONE);
        }
        Boundary.is("3 was heard of at once, with the delay 0 of its gossip", g.thing(3, 11) * 10 + g.thing(3, 9), 11);
        Boundary.is("the others are heard of later, slot by slot", Boundary.underWay(g), "6:1,-1,10,0 8:2,-1,10,0");
    }

    @Boundary.Holds(in = "Ends", says = "with a report of -1 for each thing that was held")
    static void termEndsOneReportForEachFullSlot() {
        for (int full = 0; full <= 4; full++) {
            GossipCounts g = Boundary.quick(2);
            for (int slot = 0; slot < full; slot++) {
                g.put(0, slot, 1);
            }
            g.set(1, 9);
            g.slander(0, -1);
            Boundary.is("with " + full + " full slots", g.count(5), full);
            Boundary.is("their sum", g.thing(1, 5), -full);
        }
    }

    @Boundary.Holds(in = "Ends", says = "(but none for itself, and for things that end in the same trial)")
    static void termEndsNoReportForItself() {
        GossipCounts g = Boundary.quick(2);
        g.put(0, 0, 0);
        g.put(0, 3, 1);
        g.slander(0, -1);
        Boundary.is("by its count", g.count(6) + ": " + Boundary.ends(g), "4: 0 1");
        GossipCounts t = Boundary.quick(1);
        t.put(0, 0, 0);
        t.put(0, 1, 0);
        t.suspect(0);
        Boundary.is("in a trial", t.trial() * 10 + t.count(6), 12);
    }

    @Boundary.Holds(in = "Ends", says = "and for things that end in the same trial")
    static void termEndsNoReportForThoseOfTheSameTrial() {
        GossipCounts g = Boundary.quick(3);
        g.put(0, 0, 1);
        g.put(1, 0, 0);
        g.put(1, 1, 2);
        g.suspect(1);
        Boundary.is("all three", g.trial() + ": " + Boundary.ends(g), "3: 0 1 2");
        Boundary.is("without a report", g.count(6), 3);
        for (int thing = 0; thing < 3; thing++) {
            Boundary.is("with the count of before", g.thing(thing, 2), 1);
        }
    }

    @Boundary.Holds(in = "Ends", says = "and for things that end in the same trial")
    static void termEndsAReportForOneThatTheNextSuspectsTrialEnds() {
        // 1 is innocent when 0 is tried, as 2, held by a hand, reaches it; tried by itself it has no rest.
        GossipCounts g = Boundary.quick(3);
        g.put(0, 0, 2);
        g.put(0, 1, 1);
        g.put(1, 0, 1);
        g.put(2, 0, 1);
        g.take(0, 2);
        g.slander(1, -1);
        g.suspect(0);
        int before = g.count(6);
        Boundary.is("0 and 1 end", g.trial() + ": " + Boundary.ends(g), "2: 0 1");
        Boundary.is("each in a trial", g.thing(0, 11) * 10 + g.thing(1, 11), 22);
        Boundary.is("0 made reports for 1 and 2, 1 none", g.count(6), before + 2);
        Boundary.is("1 was wronged by 2", g.thing(1, 12) * 10 + g.slot(2, 0), 9);
    }

    @Boundary.Holds(in = "Ends", says = "If slots of things that live (and do not end in the same trial) or hands "
            + "still hold it, it was wronged; they become empty without reports.")
    static void termEndsWrongedByAHandOrASlot() {
        GossipCounts none = Boundary.quick(2);
        none.take(0, 0);
        none.take(0, NONE);
        Boundary.is("let go: not wronged", none.thing(0, 11) * 10 + none.thing(0, 12), 10);
        GossipCounts hand = Boundary.quick(2);
        hand.take(3, 0);
        hand.slander(0, -1);
        Boundary.is("a hand holds it", hand.thing(0, 12) * 10 + hand.count(9), 11);
        Boundary.is("the hand is empty, without a report", hand.hand(3) * 10 + hand.count(6), -8);
        GossipCounts slot = Boundary.quick(2);
        slot.put(1, 3, 0);
        slot.slander(0, -1);
        Boundary.is("a slot holds it", slot.thing(0, 12) * 10 + slot.count(9), 11);
        Boundary.is("the slot is empty, without a report", slot.slot(1, 3) * 10 + slot.count(6), -8);
        GossipCounts many = Boundary.quick(2);
        for (int n = 0; n < 4; n++) {
            many.take(n, 0);
            many.put(1, n, 0);
        }
        for (int n = 0; n < 8; n++) {
            many.slander(0, -1);
        }
        Boundary.is("many hold it: wronged once", many.thing(0, 12) * 10 + many.count(9), 11);
        Boundary.is("all are empty", many.count(11) * 100 + many.count(6), 16);
    }

    @Boundary.Holds(in = "Ends", says = "If slots of things that live (and do not end in the same trial)")
    static void termEndsNotWrongedByItselfOrTheSameTrial() {
        GossipCounts self = Boundary.quick(1);
        self.put(0, 0, 0);
        self.slander(0, -1);
        Boundary.is("its own slot", self.thing(0, 11) * 10 + self.thing(0, 12), 10);
        GossipCounts ring = Boundary.quick(2);
        ring.put(0, 0, 1);
        ring.put(1, 0, 0);
        ring.suspect(0);
        Boundary.is("a ring", ring.trial() * 10 + ring.count(9), 20);
        // A slot of a thing outside the set, which lives, and of one that is innocent.
        GossipCounts outside = Boundary.quick(3);
        outside.put(0, 0, 0);
        outside.put(0, 1, 1);
        outside.put(1, 0, 0);
        outside.take(0, 1);
        Boundary.is("an innocent one reaches it: nothing ends", outside.suspect(0) + outside.trial(), 1);
        GossipCounts slandered = Boundary.quick(3);
        slandered.put(0, 0, 1);
        slandered.put(1, 0, 0);
        slandered.put(2, 0, 0);
        slandered.slander(0, -1);
        Boundary.is("0 and 1 end", slandered.trial() + ": " + Boundary.ends(slandered), "2: 0 1");
        Boundary.is("0 was wronged by 2, 1 was not", slandered.thing(0, 12) * 10 + slandered.thing(1, 12), 10);
        Boundary.is("the slot is empty, without a report", slandered.slot(2, 0) * 10 + slandered.count(6), -6);
    }

    @Boundary.Holds(in = "Ends", says = "its slots become empty one after the other, with a report of -1 for each "
            + "thing that was held (but none for itself, and for things that end in the same trial)")
    static void termEndsAnyThingByItsCount() {
        for (int thing = 0; thing < 24; thing++) {
            for (int slot = 0; slot < 4; slot++) {
                int other = thing == 0 ? 23 : 0;
                GossipCounts g = Boundary.quick(24);
                g.put(thing, slot, thing);
                g.put(thing, (slot + 1) % 4, other);
                g.take(0, other);
                g.slander(thing, -1);
                String what = thing + " with slot " + slot;
                Boundary.is(what + ": ended by its count", g.thing(thing, 11), 1);
                Boundary.is(what + ": not wronged by itself", g.thing(thing, 12) * 10 + g.count(9), 0);
                Boundary.is(what + ": a report for the other, none for itself", g.count(6), 5);
                Boundary.is(what + ": which is heard", g.thing(other, 2) * 10 + g.thing(other, 6), 11);
            }
        }
    }

    @Boundary.Holds(in = "Ends", says = "If slots of things that live (and do not end in the same trial) or hands "
            + "still hold it, it was wronged; they become empty without reports.")
    static void termEndsWrongedByAnyPlace() {
        for (int place = 0; place < 100; place++) {
            int thing = place < 4 ? 5 : 23 - (place - 4) / 4;
            GossipCounts g = Boundary.quick(24);
            if (place < 4) {
                g.take(place, thing);
            } else {
                g.put((place - 4) / 4, place % 4, thing);
            }
            g.slander(thing, -1);
            Boundary.is("wronged by place " + place, g.thing(thing, 11) * 10 + g.thing(thing, 12), 11);
            Boundary.is("which is empty", g.count(11), 0);
            Boundary.is("without a report", g.count(6), 2);
        }
    }

    @Boundary.Holds(in = "Ends", says = "If slots of things that live (and do not end in the same trial)")
    static void termEndsNotWrongedByAnyThatEndsLaterInTheTrial() {
        for (int last = 0; last < 24; last++) {
            for (int slot = 0; slot < 4; slot++) {
                int first = (last + 1) % 24;
                GossipCounts g = Boundary.quick(0);
                for (int n = 0; n < 24; n++) {
                    g.add(n == first ? 9 : 0);
                }
                g.put(last, slot, first);
                g.suspect(last);
                Boundary.is("both end", g.trial() + ": " + Boundary.ends(g), "2: " + first + " " + last);
                Boundary.is("the first was not wronged by slot " + slot + " of " + last, g.count(9), 0);
                Boundary.is("nor was there a report", g.count(6), 1);
            }
        }
    }

    @Boundary.Holds(in = "Ends", says = "Ends have numbers, from 0.")
    static void termEndsNumbersFrom0() {
        GossipCounts g = Boundary.quick(24);
        for (int n = 0; n < 24; n++) {
            int thing = 23 - n;
            g.slander(thing, -1);
            Boundary.is("end of " + thing, g.thing(thing, 9) * 100 + g.ended(n), n * 100 + thing);
        }
        Boundary.is("24 ends", g.count(7), 24);
    }

    // ---- trials

    @Boundary.Holds(in = "Trials", says = "In a trial the suspects that there are at its beginning are taken by "
            + "their numbers; each one that is still a suspect by then is tried by itself:")
    static void termTrialsSuspectsOfTheBeginning() {
        // 0 ends, and the -1 makes 2 a suspect, and 1: neither is tried in this trial, the next ends 2.
        GossipCounts g = Boundary.quick(3);
        g.put(0, 0, 2);
        g.put(0, 1, 1);
        g.put(1, 0, 2);
        g.put(2, 0, 2);
        g.take(0, 1);
        g.slander(2, -1);
        Boundary.is("2 is innocent, with 2 less 1", g.trial() + Boundary.suspects(g), "0");
        g.suspect(0);
        Boundary.is("0 ends", g.trial() + ": " + Boundary.ends(g), "1: 0");
        Boundary.is("1 and 2 became suspects, and stay", Boundary.suspects(g), "1 2");
        Boundary.is("the next trial ends 2", g.trial() + ": " + Boundary.ends(g), "1: 0 2");
        Boundary.is("and 1 is innocent", Boundary.suspects(g), "");
    }

    @Boundary.Holds(in = "Trials", says = "In a trial the suspects that there are at its beginning")
    static void termTrialsNoneOrAll() {
        GossipCounts none = Boundary.quick(3);
        none.put(0, 0, 0);
        Boundary.is("no suspect, no end", none.trial(), 0);
        GossipCounts all = Boundary.quick(24);
        for (int n = 0; n < 24; n++) {
            all.suspect(23 - n);
        }
        Boundary.is("24 suspects, 24 ends", all.trial() * 100 + all.count(4), 2400);
        StringBuilder order = new StringBuilder("0");
        for (int n = 1; n < 24; n++) {
            order.append(" ").append(n);
        }
        Boundary.is("by their numbers", Boundary.ends(all), order.toString());
    }

    @Boundary.Holds(in = "Trials", says = "are taken by their numbers")
    static void termTrialsByNumbersNotByRanks() {
        GossipCounts g = Boundary.quick(0);
        g.add(1);
        g.add(9);
        g.add(5);
        g.suspect(1);
        g.suspect(2);
        g.suspect(0);
        Boundary.is("each by itself, so ranks do not matter", g.trial() + ": " + Boundary.ends(g), "3: 0 1 2");
    }

    @Boundary.Holds(in = "Trials", says = "each one that is still a suspect by then is tried by itself")
    static void termTrialsOneThatEndedBeforeIsNotTried() {
        GossipCounts g = Boundary.quick(4);
        g.put(0, 0, 1);
        g.put(1, 0, 0);
        g.put(2, 0, 3);
        g.suspect(0);
        g.suspect(1);
        g.suspect(2);
        g.suspect(3);
        Boundary.is("1 ends with 0, 3 with 2", g.trial() + ": " + Boundary.ends(g), "4: 0 1 2 3");
        // 1 ends by its count behind the trial of 0, before its own turn.
        GossipCounts h = Boundary.quick(3);
        h.put(0, 0, 2);
        h.put(2, 0, 1);
        h.put(0, 1, 1);
        h.take(0, 2);
        h.slander(1, -1);
        h.suspect(0);
        Boundary.is("suspects", Boundary.suspects(h), "0 1");
        Boundary.is("0 in its trial, 1 by its count", h.trial() + ": " + h.thing(0, 11) + h.thing(1, 11), "2: 21");
        Boundary.is("one end in trials", h.count(8), 1);
    }

    @Boundary.Holds(in = "Trials", says = "its set are all things that live that it reaches, and itself.")
    static void termTrialsSetIsWhatItReachesAndItself() {
        GossipCounts g = Boundary.quick(4);
        g.put(0, 0, 1);
        g.put(1, 0, 2);
        g.put(3, 0, 3);
        g.suspect(0);
        Boundary.is("itself, though it does not reach itself, and both", g.trial() + ": " + Boundary.ends(g),
                "3: 0 1 2");
        Boundary.is("not what it does not reach", g.thing(3, 0), 1);
        GossipCounts up = Boundary.quick(3);
        up.put(0, 0, 1);
        up.put(1, 0, 2);
        up.suspect(1);
        Boundary.is("not what reaches it: 1 has a rest by 0", up.trial() + Boundary.suspects(up), "0");
    }

    @Boundary.Holds(in = "Trials", says = "All others of the set end in the same trial")
    static void termTrialsAll24InOneTrial() {
        GossipCounts g = Boundary.quick(0);
        StringBuilder order = new StringBuilder();
        for (int n = 0; n < 24; n++) {
            g.add(n < 10 ? n : n < 20 ? 19 - n : 0);
        }
        for (int n = 0; n < 24; n++) {
            g.put(n, 3, (n + 1) % 24);
        }
        for (int rank = 9; rank >= 0; rank--) {
            for (int n = 0; n < 24; n++) {
                if (g.thing(n, 1) == rank) {
                    order.append(order.length() == 0 ? "" : " ").append(n);
                }
            }
        }
        g.suspect(23);
        Boundary.is("all 24", g.trial(), 24);
        Boundary.is("by rank, then number", Boundary.ends(g), order.toString());
        Boundary.is("in a trial, none wronged", g.count(8) * 10 + g.count(9), 240);
    }

    @Boundary.Holds(in = "Trials", says = {"If a report for a thing of the set is under way, it stays a suspect.",
        "Those with a rest above 0, and all that these reach, are innocent."})
    static void termTrialsAnyThingOfTheSet() {
        for (int thing = 0; thing < 24; thing++) {
            GossipCounts g = Boundary.quick(24);
            for (int n = 0; n < 24; n++) {
                g.put(n, n % 4, (n + 1) % 24);
            }
            g.suspect(7);
            Boundary.delays(g, 2, 2, 2);
            g.slander(thing, 1);
            Boundary.is("a report for " + thing, g.trial() + Boundary.suspects(g), "07");
            g.pass(2);
            Boundary.is("a rest of " + thing + " in a ring of all", g.trial() + Boundary.suspects(g), "0");
        }
    }

    @Boundary.Holds(in = "Trials", says = "If a report for a thing of the set is under way, it stays a suspect.")
    static void termTrialsAReportForTheSetIsUnderWay() {
        for (int thing = 0; thing < 4; thing++) {
            GossipCounts g = Boundary.quick(4);
            g.put(0, 0, 1);
            g.put(1, 0, 2);
            g.put(3, 0, 0);
            g.put(0, 1, 3);
            g.put(2, 1, 2);
            g.suspect(1);
            Boundary.delays(g, 2, 2, 2);
            g.slander(thing, 1);
            boolean inSet = thing == 1 || thing == 2;
            Boundary.is("a report for " + thing, g.trial() + Boundary.suspects(g), inSet ? "01" : "0");
        }
        GossipCounts h = Boundary.quick(1);
        h.suspect(0);
        h.set(0, 3);
        h.slander(0, -1);
        h.slander(0, 1);
        Boundary.is("both under way", h.trial() + Boundary.suspects(h), "00");
        h.pass(3);
        Boundary.is("none under way", h.trial() + ": " + h.thing(0, 11), "1: 2");
    }

    @Boundary.Holds(in = "Trials", says = "Otherwise it is no suspect any more; each thing of the set has a rest, "
            + "which is its count less the number of slots of things of the set that hold it.")
    static void termTrialsRestOf0And1() {
        for (int rest = -1; rest <= 2; rest++) {
            // Held by two slots of its own, and told of 2 + rest times.
            GossipCounts g = Boundary.quick(1);
            g.put(0, 0, 0);
            g.put(0, 3, 0);
            for (int n = 0; n < rest; n++) {
                g.slander(0, 1);
            }
            if (rest < 0) {
                g.slander(0, -1);
            } else {
                g.suspect(0);
            }
            Boundary.is("a rest of " + rest, g.trial() + Boundary.suspects(g), rest > 0 ? "0" : "1");
        }
        GossipCounts hand = Boundary.quick(2);
        hand.take(0, 0);
        hand.suspect(0);
        Boundary.is("a hand is no slot of the set", hand.trial() + Boundary.suspects(hand), "0");
        hand.put(1, 0, 0);
        hand.take(0, NONE);
        Boundary.is("a slot of another is none, either", hand.trial() + Boundary.suspects(hand), "0");
        GossipCounts never = Boundary.quick(1);
        never.suspect(0);
        Boundary.is("never held: a rest of 0", never.trial(), 1);
    }

    @Boundary.Holds(in = "Trials", says = "Those with a rest above 0, and all that these reach, are innocent.")
    static void termTrialsInnocentAndAllThatTheyReach() {
        // A chain 0 > 1 > 2 > 3 > 4 whose link 2 is held by a hand.
        GossipCounts g = Boundary.quick(5);
        for (int n = 0; n < 4; n++) {
            g.put(n, 0, n + 1);
        }
        g.take(0, 2);
        g.suspect(0);
        Boundary.is("0 and 1 end", g.trial() + ": " + Boundary.ends(g), "2: 0 1");
        Boundary.is("2, 3 and 4 are innocent", g.count(2), 3);
        // In a ring one with a rest is enough.
        GossipCounts ring = Boundary.quick(4);
        for (int n = 0; n < 4; n++) {
            ring.put(n, 0, (n + 1) % 4);
        }
        ring.take(0, 3);
        ring.suspect(0);
        Boundary.is("all are innocent", ring.trial() + Boundary.suspects(ring), "0");
    }

    @Boundary.Holds(in = "Trials", says = "All others of the set end in the same trial, those with the greatest rank "
            + "first, of several the one with the lowest number first.")
    static void termTrialsOrderByRankThenNumber() {
        GossipCounts g = Boundary.quick(0);
        int[] ranks = {0, 9, 5, 9, 0, 5, 9};
        for (int rank : ranks) {
            g.add(rank);
        }
        for (int n = 0; n < 7; n++) {
            g.put(n, 0, (n + 1) % 7);
        }
        g.suspect(4);
        Boundary.is("all end", g.trial() + ": " + Boundary.ends(g), "7: 1 3 6 2 5 0 4");
        Boundary.is("at the same time, in a trial", g.thing(1, 10) * 10 + g.thing(4, 11), 2);
    }

    // ---- a tick

    @Boundary.Holds(in = "A tick", says = "When a tick passes, the time becomes 1 more; then the reports that are due "
            + "are heard;")
    static void termTickTimeThenReports() {
        GossipCounts g = Boundary.slow(2);
        g.slander(0, -1);
        g.pass(1);
        Boundary.is("heard at the new time", g.thing(0, 10), 1);
        g.slander(1, -1);
        g.pass(2);
        Boundary.is("due at 4, so not at 3", g.count(0) * 10 + g.thing(1, 0), 31);
        g.pass(1);
        Boundary.is("but at 4", g.thing(1, 10), 4);
    }

    @Boundary.Holds(in = "A tick", says = "then, if setting 4 is not 0 and the time is a multiple of it, there is a "
            + "trial.")
    static void termTickTrialAtMultiplesOfSetting4() {
        for (int every : new int[] {1, 2, 7, 49, 50}) {
            GossipCounts g = Boundary.quick(1);
            g.pass(1);
            g.set(4, every);
            g.suspect(0);
            g.put(0, 0, 0);
            int due = every == 1 ? 2 : every;
            if (due - 2 > 0) {
                Boundary.is("every " + every + ": not before", g.pass(due - 2), 0);
            }
            Boundary.is("every " + every + ": at " + due, g.pass(1), 1);
            Boundary.is("every " + every + ": the time of the end", g.thing(0, 10), due);
        }
        GossipCounts never = Boundary.quick(1);
        never.put(0, 0, 0);
        never.suspect(0);
        Boundary.is("with 0 none", Boundary.late(never, 300).count(7), 0);
        GossipCounts second = Boundary.quick(2);
        second.set(4, 50);
        second.pass(51);
        second.suspect(0);
        Boundary.is("the next multiple is 100", second.pass(48) * 10 + second.pass(1), 1);
    }

    @Boundary.Holds(in = "A tick", says = "then the reports that are due are heard; then, if setting 4 is not 0 and "
            + "the time is a multiple of it, there is a trial.")
    static void termTickReportsBeforeTheTrial() {
        GossipCounts g = Boundary.quick(1);
        g.put(0, 0, 0);
        g.suspect(0);
        g.set(0, 3);
        g.set(4, 3);
        g.slander(0, 1);
        Boundary.is("the +1 is heard first: innocent", g.pass(3) + Boundary.suspects(g), "0");
        // What becomes a suspect by a report of the tick is tried in it.
        GossipCounts h = Boundary.quick(1);
        h.put(0, 0, 0);
        h.put(0, 1, 0);
        h.set(0, 2);
        h.set(4, 2);
        h.slander(0, -1);
        Boundary.is("suspect and end in one tick", h.pass(2) * 10 + h.thing(0, 11), 12);
        // A report that the trial makes with a delay of 1 waits for the next tick.
        GossipCounts k = Boundary.quick(2);
        k.put(0, 0, 1);
        k.take(0, 1);
        k.suspect(0);
        k.set(1, 1);
        k.set(4, 2);
        k.pass(2);
        Boundary.is("not heard in its tick", k.thing(1, 2) * 10 + k.count(5), 21);
        k.pass(1);
        Boundary.is("but in the next", k.thing(1, 2) * 10 + k.count(5), 10);
    }

    // ---- settings

    @Boundary.Holds(in = "Settings", says = "0, 1, 2: the delays of the gossips, 0 to 20, at first 1, 3 and 2; 3: "
            + "proofs, 0 or 1, at first 0; 4: ticks from trial to trial, 0 to 50, at first 0 (none).")
    static void termSettingsRanges() {
        int[] first = {1, 3, 2, 0, 0};
        int[] most = {20, 20, 20, 1, 50};
        for (int n = 0; n < 5; n++) {
            int setting = n;
            GossipCounts g = new GossipCounts();
            Boundary.is("at first, " + n, g.setting(n), first[n]);
            Boundary.is("the most, " + n, g.set(n, most[n]), first[n]);
            Boundary.is("is set, " + n, g.setting(n), most[n]);
            Boundary.is("the least, " + n, g.set(n, 0), most[n]);
            Boundary.is("is set to 0, " + n, g.setting(n), 0);
            for (int other = 0; other < 5; other++) {
                Boundary.is("another one stays, " + other, g.setting(other), other == n ? 0 : first[other]);
            }
            Boundary.refuses("above, " + n, Boundary.ARGUMENT, Boundary::busy, x -> x.set(setting, most[setting] + 1));
            Boundary.refuses("below, " + n, Boundary.ARGUMENT, Boundary::busy, x -> x.set(setting, -1));
        }
        for (int setting : new int[] {-1, 5}) {
            Boundary.refuses("setting " + setting, Boundary.INDEX, Boundary::busy, x -> x.set(setting, 0));
            Boundary.refuses("look at " + setting, Boundary.INDEX, Boundary::busy, x -> x.setting(setting));
        }
    }
}
