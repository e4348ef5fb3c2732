/** Promises 16 to 22, the looks, sentence by sentence: the last that is there, the first that is not. */
public final class Promises16To22Test {
    private static final int NONE = Boundary.NONE;
    private static final int[] FAR = {Integer.MIN_VALUE, -100, 100, Integer.MAX_VALUE};

    public static void main(String[] args) {
        Boundary.runAll(Promises16To22Test.class);
    }

    // ---- 16: thing

    @Boundary.Holds(in = "Promise 16", says = {"Returns a property of a thing.", "`thing`: its number",
        "Returns the property.", "Throws `IndexOutOfBoundsException` if there is no such thing",
        "Throws `IllegalArgumentException` if what is not 0 to 12"})
    static void promise16ThingAndWhat() {
        for (int what = 0; what <= 12; what++) {
            int w = what;
            for (int wrong : new int[] {-2, -1, 5, 23, 24, FAR[0], FAR[3]}) {
                Boundary.refuses("thing " + wrong, Boundary.INDEX, Boundary::busy, x -> x.thing(wrong, w));
            }
            Boundary.changesNothing("a look", Boundary::busy, x -> x.thing(4, w));
        }
        for (int wrong : new int[] {-1, 13, FAR[0], FAR[3]}) {
            Boundary.refuses("what " + wrong, Boundary.ARGUMENT, Boundary::busy, x -> x.thing(4, wrong));
            Boundary.refuses("what " + wrong + " of one that ended", Boundary.ARGUMENT, Boundary::busy,
                    x -> x.thing(1, wrong));
            Boundary.refuses("no such thing comes first", Boundary.INDEX, Boundary::busy, x -> x.thing(5, wrong));
        }
        Boundary.refuses("thing 24 of 24", Boundary.INDEX, () -> Boundary.slow(24), x -> x.thing(24, 0));
        Boundary.allows("thing 23 of 24", 1, () -> Boundary.slow(24), x -> x.thing(23, 0));
    }

    @Boundary.Holds(in = "Promise 16", says = {"`what`: 0: 1 if it lives, otherwise 0; 1: rank;",
        "9: the number of its end, NONE if it lives; 10: the time of its end, NONE if it lives; 11: 0 if it lives, 1 if "
            + "it ended by its count, 2 in a trial; 12: 1 if it was wronged, otherwise 0"})
    static void promise16LivesOrEnded() {
        GossipCounts g = Boundary.quick(0);
        for (int rank : new int[] {0, 9, 4}) {
            g.add(rank);
        }
        g.put(0, 0, 0);
        g.take(3, 1);
        Boundary.is("0 lives", ended(g, 0), "1 0 -1 -1 0 0");
        Boundary.is("1 lives", ended(g, 1), "1 9 -1 -1 0 0");
        g.pass(7);
        g.slander(1, -1);
        Boundary.is("1 ended by its count, wronged by a hand", ended(g, 1), "0 9 0 7 1 1");
        g.pass(1);
        g.suspect(0);
        g.trial();
        Boundary.is("0 ended in a trial, not wronged", ended(g, 0), "0 0 1 8 2 0");
        Boundary.is("2 lives", ended(g, 2), "1 4 -1 -1 0 0");
        g.undo();
        Boundary.is("0 lives again", ended(g, 0), "1 0 -1 -1 0 0");
    }

    /** Properties 0, 1 and 9 to 12. */
    private static String ended(GossipCounts g, int thing) {
        return g.thing(thing, 0) + " " + g.thing(thing, 1) + " " + g.thing(thing, 9) + " " + g.thing(thing, 10) + " "
                + g.thing(thing, 11) + " " + g.thing(thing, 12);
    }

    @Boundary.Holds(in = "Promise 16", says = "2: count (as it was last, if it has ended); 3: its truth (0 if it has "
            + "ended);")
    static void promise16CountAndTruth() {
        GossipCounts g = Boundary.quick(3);
        Boundary.is("at first", g.thing(0, 2) * 10 + g.thing(0, 3), 0);
        g.take(0, 0);
        g.put(1, 0, 0);
        g.slander(0, 1);
        Boundary.is("told of three times, held twice", g.thing(0, 2) * 10 + g.thing(0, 3), 32);
        g.set(0, 1);
        for (int n = 0; n < 4; n++) {
            g.slander(0, -1);
        }
        g.pass(1);
        Boundary.is("ended: the count of then, no truth", g.thing(0, 2) * 10 + g.thing(0, 3), -10);
        g.pass(50);
        g.audit();
        Boundary.is("whatever comes", g.thing(0, 2) * 10 + g.thing(0, 3), -10);
        GossipCounts trial = Boundary.quick(2);
        trial.put(0, 0, 0);
        trial.put(0, 1, 0);
        trial.put(1, 0, 0);
        trial.slander(0, -1);
        Boundary.is("two slots of its own and one of another", trial.thing(0, 2) * 10 + trial.thing(0, 3), 23);
        trial.trial();
        Boundary.is("ended in a trial", trial.thing(0, 2) * 10 + trial.thing(0, 3), 20);
    }

    @Boundary.Holds(in = "Promise 16", says = "4: reports for it that are under way; 5: the sum of these reports;")
    static void promise16ReportsUnderWay() {
        GossipCounts g = Boundary.slow(2);
        Boundary.delays(g, 5, 5, 5);
        Boundary.is("none", g.thing(1, 4) * 10 + g.thing(1, 5), 0);
        for (int n = 1; n <= 3; n++) {
            g.slander(1, 1);
            Boundary.is("of +1", g.thing(1, 4) * 10 + g.thing(1, 5), 11 * n);
        }
        for (int n = 1; n <= 4; n++) {
            g.slander(1, -1);
            Boundary.is("of -1", g.thing(1, 4) * 10 + g.thing(1, 5), 10 * (3 + n) + 3 - n);
        }
        g.take(0, 1);
        Boundary.is("of a hand", g.thing(1, 4) * 10 + g.thing(1, 5), 80);
        Boundary.is("for another none", g.thing(0, 4) * 10 + g.thing(0, 5), 0);
        Boundary.is("heard, none are left", g.pass(5) + g.thing(1, 4) * 10 + g.thing(1, 5), 0);
        GossipCounts each = Boundary.slow(24);
        for (int thing = 0; thing < 24; thing++) {
            for (int n = 0; n <= thing % 5; n++) {
                each.slander(thing, 1);
            }
            Boundary.is("for " + thing, each.thing(thing, 4) * 10 + each.thing(thing, 5), 11 * (thing % 5 + 1));
        }
        GossipCounts many = Boundary.slow(1);
        for (int n = 0; n < 200; n++) {
            many.slander(0, -1);
        }
        Boundary.is("200", many.thing(0, 4) * 1000 + many.thing(0, 5), 199800);
    }

    @Boundary.Holds(in = "Promise 16", says = "6: 1 if it is a suspect, otherwise 0; 7: 1 if it is reached, otherwise "
            + "0; 8: the time at which it came;")
    static void promise16SuspectReachedAndCame() {
        GossipCounts g = Boundary.quick(1);
        g.pass(100);
        g.add(0);
        g.take(0, 1);
        g.suspect(0);
        Boundary.is("0: a suspect, not reached, came at 0", g.thing(0, 6) + "" + g.thing(0, 7) + g.thing(0, 8), "100");
        Boundary.is("1: none, reached, came at 100", g.thing(1, 6) + "" + g.thing(1, 7) + g.thing(1, 8), "01100");
        g.trial();
        g.slander(1, -1);
        Boundary.is("0 ended", g.thing(0, 6) + "" + g.thing(0, 7) + g.thing(0, 8), "000");
        Boundary.is("1 ended", g.thing(1, 6) + "" + g.thing(1, 7) + g.thing(1, 8), "00100");
        GossipCounts last = Boundary.late(new GossipCounts(), 5000);
        Boundary.is("came at 5000", last.thing(last.add(0), 8), 5000);
    }

    // ---- 17 and 18: slot and hand

    @Boundary.Holds(in = "Promise 17", says = {"Returns what a slot holds.", "`thing`: its number", "`slot`: 0 to 3",
        "Returns what it holds, NONE if nothing.",
        "Throws `IndexOutOfBoundsException` if there is no such thing or slot"})
    static void promise17Slot() {
        GossipCounts g = Boundary.slow(24);
        for (int slot = 0; slot <= 3; slot++) {
            g.put(0, slot, slot);
            g.put(23, slot, 20 + slot);
        }
        for (int slot = 0; slot <= 3; slot++) {
            Boundary.is("slot " + slot + " of 0", g.slot(0, slot), slot);
            Boundary.is("slot " + slot + " of 23", g.slot(23, slot), 20 + slot);
            Boundary.is("slot " + slot + " of 1", g.slot(1, slot), NONE);
        }
        Boundary.allows("of one that ended", NONE, Boundary::busy, x -> x.slot(1, 3));
        for (int wrong : new int[] {-1, 5, 24, FAR[0], FAR[3]}) {
            Boundary.refuses("thing " + wrong, Boundary.INDEX, Boundary::busy, x -> x.slot(wrong, 0));
        }
        for (int wrong : new int[] {-1, 4, FAR[0], FAR[3]}) {
            Boundary.refuses("slot " + wrong, Boundary.INDEX, Boundary::busy, x -> x.slot(0, wrong));
            Boundary.refuses("slot " + wrong + " of one that ended", Boundary.INDEX, Boundary::busy,
                    x -> x.slot(1, wrong));
        }
        Boundary.refuses("thing 24 of 24", Boundary.INDEX, () -> Boundary.slow(24), x -> x.slot(24, 0));
        Boundary.changesNothing("a look", Boundary::busy, x -> x.slot(0, 0));
    }

    @Boundary.Holds(in = "Promise 18", says = {"Returns what a hand holds.", "`hand`: 0 to 3",
        "Returns what it holds, NONE if nothing.", "Throws `IndexOutOfBoundsException` if there is no such hand"})
    static void promise18Hand() {
        GossipCounts g = Boundary.slow(24);
        g.take(0, 23);
        g.take(3, 0);
        Boundary.is("hand 0", g.hand(0), 23);
        Boundary.is("hand 1", g.hand(1), NONE);
        Boundary.is("hand 2", g.hand(2), NONE);
        Boundary.is("hand 3", g.hand(3), 0);
        for (int wrong : new int[] {-1, 4, FAR[0], FAR[3]}) {
            Boundary.refuses("hand " + wrong, Boundary.INDEX, Boundary::busy, x -> x.hand(wrong));
        }
        Boundary.changesNothing("a look", Boundary::busy, x -> x.hand(0));
    }

    // ---- 19: report

    @Boundary.Holds(in = "Promise 19", says = {"Returns a part of a report that is under way.",
        "`place`: its place in the order in which they will be heard, from 0", "Returns the part.",
        "Throws `IndexOutOfBoundsException` if there are not so many"})
    static void promise19Places() {
        Boundary.refuses("none, place 0", Boundary.INDEX, () -> Boundary.slow(1), x -> x.report(0, 0));
        for (int reports = 1; reports <= 4; reports++) {
            int n = reports;
            Boundary.Made made = () -> {
                GossipCounts g = Boundary.slow(1);
                for (int k = 0; k < n; k++) {
                    g.slander(0, 1);
                }
                return g;
            };
            Boundary.allows("the first of " + n, 0, made, x -> x.report(0, 0));
            Boundary.allows("the last of " + n, n - 1, made, x -> x.report(n - 1, 0));
            for (int wrong : new int[] {-1, n, n + 1, FAR[0], FAR[3]}) {
                Boundary.refuses("place " + wrong + " of " + n, Boundary.INDEX, made, x -> x.report(wrong, 0));
            }
        }
        Boundary.refuses("heard ones have no place", Boundary.INDEX, () -> {
            GossipCounts g = Boundary.slow(3);
            g.slander(0, 1);
            g.slander(1, 1);
            g.pass(1);
            return g;
        }, x -> x.report(1, 0));
        Boundary.changesNothing("a look", Boundary::busy, x -> x.report(1, 3));
    }

    @Boundary.Holds(in = "Promise 19", says = {"`what`: 0: its number; 1: its thing; 2: -1 or 1; 3: the time at which "
            + "it is due; 4: 1 if it is false (made by slander()), otherwise 0",
        "Throws `IllegalArgumentException` if what is not 0 to 4"})
    static void promise19Parts() {
        GossipCounts g = Boundary.slow(24);
        g.set(2, 20);
        g.pass(5);
        g.take(0, 23);
        g.slander(22, -1);
        g.slander(23, -1);
        Boundary.is("all parts", Boundary.underWay(g), "1:22,-1,8,1 0:23,1,25,0 2:23,-1,25,1");
        for (int wrong : new int[] {-1, 5, FAR[0], FAR[3]}) {
            Boundary.refuses("part " + wrong, Boundary.ARGUMENT, Boundary::busy, x -> x.report(1, wrong));
            Boundary.refuses("no such place comes first", Boundary.INDEX, Boundary::busy, x -> x.report(2, wrong));
        }
    }

    // ---- 20: ended

    @Boundary.Holds(in = "Promise 20", says = {"Returns the thing with a number of an end.",
        "`end`: the number of the end", "Returns the thing.",
        "Throws `IndexOutOfBoundsException` if there were not so many ends"})
    static void promise20Ends() {
        Boundary.refuses("none, end 0", Boundary.INDEX, () -> Boundary.quick(24), x -> x.ended(0));
        for (int ends : new int[] {1, 2, 23, 24}) {
            Boundary.Made made = () -> {
                GossipCounts g = Boundary.quick(24);
                for (int n = 0; n < ends; n++) {
                    g.slander(23 - n, -1);
                }
                return g;
            };
            Boundary.allows("the first of " + ends, 23, made, x -> x.ended(0));
            Boundary.allows("the last of " + ends, 24 - ends, made, x -> x.ended(ends - 1));
            for (int wrong : new int[] {-1, ends, ends + 1, FAR[0], FAR[3]}) {
                Boundary.refuses("end " + wrong + " of " + ends, Boundary.INDEX, made, x -> x.ended(wrong));
            }
            Boundary.refuses("undone, the last of " + ends, Boundary.INDEX, () -> {
                GossipCounts g = made.object();
                g.undo();
                return g;
            }, x -> x.ended(ends - 1));
        }
        Boundary.changesNothing("a look", Boundary::busy, x -> x.ended(0));
    }

    // ---- 21: count

    @Boundary.Holds(in = "Promise 21", says = {"Returns a number.", "Returns the number.",
        "Throws `IllegalArgumentException` if what is not 0 to 13"})
    static void promise21What0To13() {
        for (int what = 0; what <= 13; what++) {
            int w = what;
            Boundary.allows("count " + what, 0, GossipCounts::new, x -> x.count(w));
            Boundary.changesNothing("a look", Boundary::busy, x -> x.count(w));
        }
        int[] due = {1, 5, 4, 2, 1, 2, 5, 1, 0, 0, 0, 3, 1, 6};
        for (int what = 0; what <= 13; what++) {
            int w = what;
            Boundary.allows("count " + what + " of the busy one", due[what], Boundary::busy, x -> x.count(w));
        }
        for (int wrong : new int[] {-1, 14, FAR[0], FAR[3]}) {
            Boundary.refuses("count " + wrong, Boundary.ARGUMENT, Boundary::busy, x -> x.count(wrong));
        }
    }

    @Boundary.Holds(in = "Promise 21", says = "`what`: 0: time; 1: things, with those that ended; 2: things that live; "
            + "3: things that are reached; 4: suspects;")
    static void promise21Things() {
        GossipCounts g = Boundary.quick(24);
        for (int n = 0; n < 23; n++) {
            g.put(n, 0, n + 1);
        }
        g.take(0, 0);
        Boundary.is("time", g.count(0), 0);
        Boundary.is("all 24 live and are reached", g.count(1) * 10000 + g.count(2) * 100 + g.count(3), 242424);
        g.suspect(23);
        g.suspect(22);
        Boundary.is("suspects", g.count(4), 2);
        g.slander(23, -1);
        Boundary.is("one has ended", g.count(1) * 10000 + g.count(2) * 100 + g.count(3), 242323);
        Boundary.is("and is no suspect", g.count(4), 1);
        g.slander(0, -1);
        Boundary.is("all have ended", g.count(1) * 10000 + g.count(2) * 100 + g.count(3), 240000);
        Boundary.is("no suspects", g.count(4), 0);
        Boundary.is("the latest time", Boundary.late(g, 5000).count(0), 5000);
    }

    @Boundary.Holds(in = "Promise 21", says = "5: reports under way; 6: reports so far; 7: ends so far; 8: of these, in "
            + "trials; 9: things that were wronged so far; 10: how often slander was found so far;")
    static void promise21SoFar() {
        GossipCounts g = Boundary.slow(5);
        Boundary.delays(g, 1, 1, 1);
        g.set(3, 1);
        g.take(0, 0);
        g.slander(0, -1);
        g.slander(0, -1);
        Boundary.is("under way, and so far", g.count(5) * 10 + g.count(6), 33);
        g.pass(1);
        Boundary.is("heard", g.count(5) * 10 + g.count(6), 3);
        Boundary.is("slander was found", g.count(10), 1);
        g.slander(0, -1);
        g.pass(1);
        Boundary.is("and again", g.count(10), 2);
        g.set(3, 0);
        g.slander(0, -1);
        g.slander(1, -1);
        g.put(2, 0, 2);
        g.pass(1);
        Boundary.is("two ends by counts, one was wronged", g.count(7) * 100 + g.count(8) * 10 + g.count(9), 201);
        g.suspect(2);
        g.trial();
        Boundary.is("one in a trial", g.count(7) * 100 + g.count(8) * 10 + g.count(9), 311);
        Boundary.is("reports so far", g.count(6), 7);
        g.undo();
        Boundary.is("undone", g.count(7) * 100 + g.count(8) * 10 + g.count(9), 201);
    }

    @Boundary.Holds(in = "Promise 21", says = "11: slots and hands that hold something;")
    static void promise21SlotsAndHands() {
        GossipCounts g = Boundary.slow(24);
        int held = 0;
        Boundary.is("none", g.count(11), 0);
        for (int hand = 0; hand < 4; hand++) {
            g.take(hand, 0);
            held++;
            Boundary.is("hands", g.count(11), held);
        }
        for (int place = 0; place < 96; place++) {
            g.put(place / 4, place % 4, 23);
            held++;
        }
        Boundary.is("all", g.count(11) + held, 200);
        g.put(23, 3, NONE);
        g.take(0, NONE);
        g.take(1, 5);
        Boundary.is("two less", g.count(11), 98);
    }

    @Boundary.Holds(in = "Promise 21", says = "12: things that live whose count and the sum of whose reports under way "
            + "together are not their truth; 13: saved states")
    static void promise21WrongCountsAndSavedStates() {
        GossipCounts g = Boundary.slow(3);
        Boundary.is("none", g.count(12), 0);
        g.take(0, 0);
        Boundary.is("a change under way is right", g.count(12), 0);
        g.slander(0, 1);
        Boundary.is("slander under way is not", g.count(12), 1);
        g.slander(1, -1);
        Boundary.is("nor one too few", g.count(12), 2);
        g.slander(0, -1);
        Boundary.is("two that are even are right", g.count(12), 1);
        g.pass(2);
        Boundary.is("heard or not", g.count(12), 1);
        g.pass(1);
        Boundary.is("what ended is not counted", g.count(12) * 10 + g.count(7), 1);
        GossipCounts all = Boundary.slow(24);
        for (int thing = 23; thing >= 0; thing--) {
            all.slander(thing, 1);
            Boundary.is("wrong down to " + thing, all.count(12), 24 - thing);
        }
        GossipCounts saved = new GossipCounts();
        for (int n = 0; n <= 8; n++) {
            Boundary.is("saved states", saved.count(13), Math.min(n, 6));
            saved.audit();
        }
    }

    // ---- 22: setting

    @Boundary.Holds(in = "Promise 22", says = {"Returns a setting.", "`setting`: 0 to 4", "Returns its value.",
        "Throws `IndexOutOfBoundsException` if there is no such setting"})
    static void promise22Settings() {
        int[] first = {1, 3, 2, 0, 0};
        int[] most = {20, 20, 20, 1, 50};
        GossipCounts g = new GossipCounts();
        for (int setting = 0; setting <= 4; setting++) {
            Boundary.is("at first " + setting, g.setting(setting), first[setting]);
            g.set(setting, most[setting]);
            Boundary.is("the most " + setting, g.setting(setting), most[setting]);
        }
        g.undo();
        Boundary.is("undone", g.setting(4) * 10 + g.setting(3), 1);
        for (int wrong : new int[] {-1, 5, FAR[0], FAR[3]}) {
            Boundary.refuses("setting " + wrong, Boundary.INDEX, Boundary::busy, x -> x.setting(wrong));
        }
        Boundary.changesNothing("a look", Boundary::busy, x -> x.setting(0));
    }
}
