/** Promises 1 to 10, sentence by sentence: the last that is allowed, the first that is not, and what is due. */
public final class Promises01To10Test {
    private static final int NONE = Boundary.NONE;
    private static final int[] FAR = {Integer.MIN_VALUE, -100, 100, Integer.MAX_VALUE};

    public static void main(String[] args) {
        Boundary.runAll(Promises01To10Test.class);
    }

    private static GossipCounts full() {
        return Boundary.slow(24);
    }

    // ---- 1: a new object

    @Boundary.Holds(in = "Promise 1", says = {"`GossipCounts()`: Creates hands that hold nothing, without things, "
            + "with an empty buffer."})
    static void promise1NewObjectIsEmpty() {
        GossipCounts g = new GossipCounts();
        for (int hand = 0; hand < 4; hand++) {
            Boundary.is("hand " + hand, g.hand(hand), NONE);
        }
        for (int what = 0; what <= 13; what++) {
            Boundary.is("count " + what, g.count(what), 0);
        }
        Boundary.is("the buffer", g.clearBuffer(), 0);
        Boundary.is("its first error", g.firstError(), 0);
        Boundary.is("the first thing", g.add(0), 0);
        Boundary.allows("the first character", 1, GossipCounts::new, x -> x.append('n'));
        Boundary.refuses("no thing", Boundary.INDEX, GossipCounts::new, x -> x.thing(0, 0));
        Boundary.refuses("none to take", Boundary.INDEX, GossipCounts::new, x -> x.take(0, 0));
        Boundary.refuses("no report", Boundary.INDEX, GossipCounts::new, x -> x.report(0, 0));
        Boundary.refuses("no end", Boundary.INDEX, GossipCounts::new, x -> x.ended(0));
        Boundary.refuses("no saved state", Boundary.STATE, GossipCounts::new, GossipCounts::undo);
        Boundary.refuses("no program", Boundary.ARGUMENT, GossipCounts::new, GossipCounts::run);
    }

    @Boundary.Holds(in = "Promise 1", says = "Creates hands that hold nothing, without things, with an empty buffer.")
    static void promise1ObjectsShareNothing() {
        GossipCounts first = Boundary.busy();
        GossipCounts second = new GossipCounts();
        Boundary.is("a second object", second.digest(), new GossipCounts().digest());
        second.add(9);
        second.append('x');
        second.set(0, 20);
        Boundary.alike("the first one", first, Boundary.busy());
    }

    // ---- 2: add

    @Boundary.Holds(in = "Promise 2", says = {"Adds a thing.", "Undoable."})
    static void promise2AddsAThing() {
        GossipCounts g = Boundary.busy();
        int living = g.count(2);
        g.add(6);
        Boundary.is("one more that lives", g.count(2) * 10 + g.thing(5, 0), living * 10 + 11);
        int[] due = {1, 6, 0, 0, 0, 0, 0, 0, 1, NONE, NONE, 0, 0};
        for (int what = 0; what <= 12; what++) {
            Boundary.is("its property " + what, g.thing(5, what), due[what]);
        }
        Boundary.is("no report", g.count(6), Boundary.busy().count(6));
        Boundary.undoable("add", Boundary::roomy, x -> x.add(6));
        GossipCounts again = Boundary.slow(1);
        again.suspect(0);
        again.undo();
        again.undo();
        Boundary.is("undone, then added anew", again.add(8) * 10 + again.thing(0, 1), 8);
        Boundary.is("no suspect", again.thing(0, 6), 0);
    }

    @Boundary.Holds(in = "Promise 2", says = {"`rank`: 0 to 9",
        "Throws `IllegalArgumentException` if rank is out of range"})
    static void promise2Rank0To9() {
        for (int rank = 0; rank <= 9; rank++) {
            int r = rank;
            Boundary.allows("rank " + rank, rank, GossipCounts::new, x -> x.thing(x.add(r), 1));
        }
        Boundary.refuses("rank -1", Boundary.ARGUMENT, Boundary::roomy, x -> x.add(-1));
        Boundary.refuses("rank 10", Boundary.ARGUMENT, Boundary::roomy, x -> x.add(10));
        for (int far : FAR) {
            Boundary.refuses("rank " + far, Boundary.ARGUMENT, Boundary::roomy, x -> x.add(far));
        }
    }

    @Boundary.Holds(in = "Promise 2", says = "Returns its number.")
    static void promise2Number0To23() {
        GossipCounts g = new GossipCounts();
        for (int n = 0; n <= 23; n++) {
            Boundary.is("number", g.add(9 - n % 10), n);
        }
        Boundary.is("the last one lives", g.thing(23, 0), 1);
    }

    @Boundary.Holds(in = "Promise 2", says = "Throws `IllegalStateException` if there are 24 things, with those that "
            + "ended")
    static void promise2No25thThing() {
        Boundary.allows("a 24th", 23, () -> Boundary.slow(23), x -> x.add(0));
        Boundary.refuses("a 25th", Boundary.STATE, Promises01To10Test::full, x -> x.add(0));
        Boundary.refuses("a 25th, all 24 have ended", Boundary.STATE, () -> {
            GossipCounts g = full();
            for (int thing = 0; thing < 24; thing++) {
                g.slander(thing, -1);
            }
            g.pass(3);
            return g;
        }, x -> x.add(0));
        Boundary.allows("a 24th, 23 have ended", 23, () -> {
            GossipCounts g = Boundary.quick(23);
            for (int thing = 0; thing < 23; thing++) {
                g.slander(thing, -1);
            }
            return g;
        }, x -> x.add(0));
        Boundary.allows("a 24th again, behind undo", 23, () -> {
            GossipCounts g = full();
            g.undo();
            return g;
        }, x -> x.add(0));
        Boundary.refuses("a wrong rank comes first", Boundary.ARGUMENT, Promises01To10Test::full, x -> x.add(-1));
    }

    // ---- 3: take

    @Boundary.Holds(in = "Promise 3", says = {"A hand takes a thing, or nothing, in place of what it held.",
        "Undoable.", "`thing`: its number, or NONE", "Returns what it held, NONE if nothing."})
    static void promise3TakesInPlaceOfWhatItHeld() {
        GossipCounts g = Boundary.slow(24);
        Boundary.is("nothing for nothing", g.take(0, NONE), NONE);
        Boundary.is("0 for nothing", g.take(0, 0), NONE);
        Boundary.is("holds 0", g.hand(0), 0);
        Boundary.is("0 for 0", g.take(0, 0), 0);
        Boundary.is("23 for 0", g.take(0, 23), 0);
        Boundary.is("holds 23", g.hand(0), 23);
        Boundary.is("nothing for 23", g.take(0, NONE), 23);
        Boundary.is("holds nothing", g.hand(0), NONE);
        Boundary.is("nothing for nothing again", g.take(0, NONE), NONE);
        Boundary.undoable("a thing", Boundary::roomy, x -> x.take(3, 4));
        Boundary.undoable("nothing", Boundary::roomy, x -> x.take(0, NONE));
        Boundary.is("what it held, though that ends at once", endsByTake(), 0);
    }

    private static int endsByTake() {
        GossipCounts g = Boundary.quick(1);
        g.take(2, 0);
        int held = g.take(2, NONE);
        return held + 10 * g.thing(0, 0);
    }

    @Boundary.Holds(in = "Promise 3", says = {"`hand`: 0 to 3",
        "Throws `IndexOutOfBoundsException` if there is no such hand or thing"})
    static void promise3NoSuchHandOrThing() {
        for (int hand = 0; hand <= 3; hand++) {
            int h = hand;
            Boundary.allows("hand " + hand, 4, Boundary::busy, x -> {
                x.take(h, 4);
                return x.hand(h);
            });
        }
        for (int wrong : new int[] {-2, -1, 4, 5, FAR[0], FAR[3]}) {
            Boundary.refuses("hand " + wrong, Boundary.INDEX, Boundary::roomy, x -> x.take(wrong, 0));
            Boundary.refuses("hand " + wrong + " and nothing", Boundary.INDEX, Boundary::roomy, x -> x.take(wrong, NONE));
        }
        Boundary.allows("the last thing", NONE, Boundary::busy, x -> x.take(1, 4));
        for (int wrong : new int[] {-2, 5, 23, 24, FAR[0], FAR[3]}) {
            Boundary.refuses("thing " + wrong, Boundary.INDEX, Boundary::roomy, x -> x.take(0, wrong));
        }
        Boundary.refuses("thing 24 of 24", Boundary.INDEX, Promises01To10Test::full, x -> x.take(0, 24));
    }

    @Boundary.Holds(in = "Promise 3", says = "Throws `IllegalStateException` if the thing has ended")
    static void promise3TheThingHasEnded() {
        Boundary.refuses("ended", Boundary.STATE, Boundary::roomy, x -> x.take(0, 1));
        Boundary.refuses("no such hand comes first", Boundary.INDEX, Boundary::roomy, x -> x.take(4, 1));
        GossipCounts g = Boundary.slow(1);
        g.slander(0, -1);
        Boundary.is("a thing whose end is due in the next tick", g.take(0, 0), NONE);
        g.pass(1);
        Boundary.is("it had a report under way, then none", g.thing(0, 0) * 10 + g.thing(0, 2), 10);
    }

    // ---- 4: put

    @Boundary.Holds(in = "Promise 4", says = {"A slot of a thing takes a thing, or nothing, in place of what it held.",
        "Undoable.", "`other`: the number of what is held then, or NONE", "Returns what it held, NONE if nothing."})
    static void promise4PutsInPlaceOfWhatItHeld() {
        GossipCounts g = Boundary.slow(24);
        Boundary.is("nothing for nothing", g.put(23, 3, NONE), NONE);
        Boundary.is("0 for nothing", g.put(23, 3, 0), NONE);
        Boundary.is("holds 0", g.slot(23, 3), 0);
        Boundary.is("0 for 0", g.put(23, 3, 0), 0);
        Boundary.is("itself for 0", g.put(23, 3, 23), 0);
        Boundary.is("holds itself", g.slot(23, 3), 23);
        Boundary.is("nothing for itself", g.put(23, 3, NONE), 23);
        Boundary.is("holds nothing", g.slot(23, 3), NONE);
        Boundary.undoable("a thing", Boundary::roomy, x -> x.put(4, 3, 0));
        Boundary.undoable("nothing", Boundary::roomy, x -> x.put(0, 0, NONE));
        GossipCounts q = Boundary.quick(2);
        q.put(0, 0, 1);
        Boundary.is("what it held, though that ends at once", q.put(0, 0, NONE) * 10 + q.thing(1, 0), 10);
        GossipCounts self = Boundary.quick(1);
        self.put(0, 0, 0);
        Boundary.is("itself, which ends at once", self.put(0, 0, NONE) * 10 + self.thing(0, 0), 0);
    }

    @Boundary.Holds(in = "Promise 4", says = {"`thing`: its number", "`slot`: 0 to 3",
        "Throws `IndexOutOfBoundsException` if there is no such thing, slot or other"})
    static void promise4NoSuchThingSlotOrOther() {
        for (int slot = 0; slot <= 3; slot++) {
            int s = slot;
            Boundary.allows("slot " + slot, 2, Boundary::busy, x -> {
                x.put(4, s, 2);
                return x.slot(4, s);
            });
        }
        for (int wrong : new int[] {-1, 5, 24, FAR[0], FAR[3]}) {
            Boundary.refuses("thing " + wrong, Boundary.INDEX, Boundary::roomy, x -> x.put(wrong, 0, 0));
        }
        for (int wrong : new int[] {-1, 4, FAR[0], FAR[3]}) {
            Boundary.refuses("slot " + wrong, Boundary.INDEX, Boundary::roomy, x -> x.put(0, wrong, 0));
        }
        for (int wrong : new int[] {-2, 5, 24, FAR[0], FAR[3]}) {
            Boundary.refuses("other " + wrong, Boundary.INDEX, Boundary::roomy, x -> x.put(0, 0, wrong));
        }
        Boundary.refuses("thing 24 of 24", Boundary.INDEX, Promises01To10Test::full, x -> x.put(24, 0, NONE));
        Boundary.refuses("other 24 of 24", Boundary.INDEX, Promises01To10Test::full, x -> x.put(0, 0, 24));
        Boundary.refuses("NONE is no thing to put into", Boundary.INDEX, Boundary::roomy, x -> x.put(NONE, 0, 0));
    }

    @Boundary.Holds(in = "Promise 4", says = "Throws `IllegalStateException` if the thing or the other one has ended")
    static void promise4TheThingOrTheOtherHasEnded() {
        Boundary.refuses("the thing", Boundary.STATE, Boundary::roomy, x -> x.put(1, 0, 0));
        Boundary.refuses("the thing, and nothing is put", Boundary.STATE, Boundary::roomy, x -> x.put(1, 0, NONE));
        Boundary.refuses("the other", Boundary.STATE, Boundary::roomy, x -> x.put(0, 0, 1));
        Boundary.refuses("both", Boundary.STATE, Boundary::roomy, x -> x.put(1, 0, 1));
        Boundary.refuses("no such slot comes first", Boundary.INDEX, Boundary::roomy, x -> x.put(1, -1, 0));
        Boundary.refuses("no such other comes first", Boundary.INDEX, Boundary::roomy, x -> x.put(1, 0, 5));
        Boundary.refuses("no such thing comes first", Boundary.INDEX, Boundary::roomy, x -> x.put(5, 0, 1));
        Boundary.allows("both live", NONE, Boundary::busy, x -> x.put(4, 0, 4));
    }

    // ---- 5: slander

    @Boundary.Holds(in = "Promise 5", says = {"Makes a false report for a thing.", "Undoable."})
    static void promise5MakesAFalseReport() {
        GossipCounts g = Boundary.slow(2);
        g.slander(1, -1);
        Boundary.is("false", Boundary.underWay(g), "0:1,-1,3,1");
        g.take(0, 1);
        Boundary.is("that of a change is not", Boundary.underWay(g), "0:1,-1,3,1 1:1,1,3,0");
        Boundary.is("nothing else changes", g.thing(1, 3) * 10 + g.thing(1, 2), 10);
        Boundary.undoable("slander", Boundary::roomy, x -> x.slander(4, 1));
        GossipCounts end = Boundary.quick(2);
        end.put(0, 0, 1);
        end.set(1, 2);
        end.slander(0, -1);
        Boundary.is("that of an end by slander is not false", Boundary.underWay(end), "2:1,-1,2,0");
    }

    @Boundary.Holds(in = "Promise 5", says = "Returns the number of the report.")
    static void promise5NumberOfTheReport() {
        GossipCounts g = Boundary.quick(2);
        Boundary.is("the first", g.slander(0, 1), 0);
        Boundary.is("the second, also when heard at once", g.slander(1, 1), 1);
        g.take(0, 0);
        g.put(1, 0, 1);
        g.take(0, 1);
        Boundary.is("behind four more", g.slander(1, -1), 6);
        g.put(1, 1, 0);
        Boundary.is("its own number, not that of the reports behind it", endBySlander(), 1);
    }

    /** The slander ends 0, which makes a report of its own. */
    private static int endBySlander() {
        GossipCounts g = Boundary.quick(2);
        g.put(0, 0, 1);
        int number = g.slander(0, -1);
        return number + 10 * (g.count(6) - 3);
    }

    @Boundary.Holds(in = "Promise 5", says = {"`thing`: its number",
        "Throws `IndexOutOfBoundsException` if there is no such thing"})
    static void promise5NoSuchThing() {
        Boundary.allows("the first thing", true, Boundary::busy, x -> x.slander(0, 1) >= 0);
        Boundary.allows("the last thing", true, Boundary::busy, x -> x.slander(4, 1) >= 0);
        for (int wrong : new int[] {-1, 5, 24, FAR[0], FAR[3]}) {
            Boundary.refuses("thing " + wrong, Boundary.INDEX, Boundary::roomy, x -> x.slander(wrong, -1));
        }
        Boundary.refuses("thing 24 of 24", Boundary.INDEX, Promises01To10Test::full, x -> x.slander(24, 1));
    }

    @Boundary.Holds(in = "Promise 5", says = {"`by`: -1 or 1",
        "Throws `IllegalArgumentException` if by is neither -1 nor 1"})
    static void promise5ByMinus1Or1() {
        for (int by : new int[] {-1, 1}) {
            Boundary.allows("by " + by, by, () -> Boundary.slow(1), x -> x.report(x.slander(0, by), 2));
        }
        for (int by : new int[] {-2, 0, 2, FAR[0], FAR[3]}) {
            Boundary.refuses("by " + by, Boundary.ARGUMENT, Boundary::roomy, x -> x.slander(0, by));
            Boundary.refuses("no such thing comes first, by " + by, Boundary.INDEX, Boundary::roomy,
                    x -> x.slander(5, by));
        }
    }

    @Boundary.Holds(in = "Promise 5", says = "Throws `IllegalStateException` if the thing has ended")
    static void promise5TheThingHasEnded() {
        Boundary.refuses("by -1", Boundary.STATE, Boundary::roomy, x -> x.slander(1, -1));
        Boundary.refuses("by 1", Boundary.STATE, Boundary::roomy, x -> x.slander(1, 1));
        Boundary.refuses("by 0, which comes first", Boundary.ARGUMENT, Boundary::roomy, x -> x.slander(1, 0));
    }

    // ---- 6: suspect

    @Boundary.Holds(in = "Promise 6", says = {"Suspects a thing.", "Undoable.",
        "Returns how many suspects there are then."})
    static void promise6Suspects1To24() {
        GossipCounts g = full();
        for (int n = 1; n <= 24; n++) {
            Boundary.is("suspects", g.suspect(24 - n), n);
            Boundary.is("is one", g.thing(24 - n, 6), 1);
        }
        Boundary.is("nothing ends by that", g.count(2), 24);
        Boundary.undoable("suspect", Boundary::roomy, x -> x.suspect(2));
        GossipCounts less = Boundary.quick(3);
        less.suspect(0);
        less.suspect(2);
        less.slander(2, -1);
        Boundary.is("one that ended is none any more", less.suspect(1), 2);
    }

    @Boundary.Holds(in = "Promise 6", says = {"`thing`: its number",
        "Throws `IndexOutOfBoundsException` if there is no such thing"})
    static void promise6NoSuchThing() {
        Boundary.allows("the last thing", 2, Boundary::busy, x -> x.suspect(4));
        for (int wrong : new int[] {-1, 5, 24, FAR[0], FAR[3]}) {
            Boundary.refuses("thing " + wrong, Boundary.INDEX, Boundary::roomy, x -> x.suspect(wrong));
        }
        Boundary.refuses("thing 24 of 24", Boundary.INDEX, Promises01To10Test::full, x -> x.suspect(24));
    }

    @Boundary.Holds(in = "Promise 6", says = "Throws `IllegalStateException` if it has ended, or is a suspect")
    static void promise6HasEndedOrIsASuspect() {
        Boundary.refuses("has ended", Boundary.STATE, Boundary::roomy, x -> x.suspect(1));
        Boundary.refuses("is a suspect", Boundary.STATE, Boundary::busy, x -> x.suspect(3));
        Boundary.refuses("is one by a report of -1", Boundary.STATE, () -> {
            GossipCounts g = Boundary.quick(1);
            g.take(0, 0);
            g.take(1, 0);
            g.slander(0, -1);
            return g;
        }, x -> x.suspect(0));
        Boundary.allows("is one no more, behind its trial", 1, () -> {
            GossipCounts g = Boundary.quick(1);
            g.take(0, 0);
            g.suspect(0);
            g.trial();
            return g;
        }, x -> x.suspect(0));
    }

    // ---- 7: set

    @Boundary.Holds(in = "Promise 7", says = {"Changes a setting.", "Undoable.", "Returns the previous value."})
    static void promise7ChangesASetting() {
        int[] first = {1, 3, 2, 0, 0};
        for (int setting = 0; setting <= 4; setting++) {
            int s = setting;
            GossipCounts g = new GossipCounts();
            Boundary.is("the first value of " + s, g.set(s, 1), first[s]);
            Boundary.is("then", g.set(s, 0), 1);
            Boundary.is("the same again", g.set(s, 0), 0);
            Boundary.is("is set", g.setting(s), 0);
            Boundary.undoable("setting " + s, Boundary::roomy, x -> x.set(s, 1));
        }
    }

    @Boundary.Holds(in = "Promise 7", says = "(Reports that are under way keep their due times.)")
    static void promise7ReportsKeepTheirDueTimes() {
        GossipCounts g = Boundary.slow(1);
        g.set(0, 5);
        g.slander(0, 1);
        g.set(0, 0);
        Boundary.is("not heard by that", Boundary.underWay(g), "0:0,1,5,1");
        g.set(0, 20);
        Boundary.is("nor later", Boundary.underWay(g), "0:0,1,5,1");
        Boundary.is("heard at 5", g.pass(4) * 100 + g.count(5) * 10 + g.pass(1) + g.thing(0, 2), 11);
        GossipCounts trial = Boundary.quick(1);
        trial.suspect(0);
        trial.pass(6);
        Boundary.is("setting 4 holds no trial by itself", trial.set(4, 3) * 10 + trial.count(7), 0);
    }

    @Boundary.Holds(in = "Promise 7", says = {"`setting`: 0 to 4",
        "Throws `IndexOutOfBoundsException` if there is no such setting"})
    static void promise7NoSuchSetting() {
        Boundary.allows("setting 0", 1, Boundary::busy, x -> x.set(0, 0));
        Boundary.allows("setting 4", 0, Boundary::busy, x -> x.set(4, 1));
        for (int wrong : new int[] {-1, 5, FAR[0], FAR[3]}) {
            Boundary.refuses("setting " + wrong, Boundary.INDEX, Boundary::roomy, x -> x.set(wrong, 0));
            Boundary.refuses("and a wrong value", Boundary.INDEX, Boundary::roomy, x -> x.set(wrong, -1));
        }
    }

    @Boundary.Holds(in = "Promise 7", says = {"`value`: the new value",
        "Throws `IllegalArgumentException` if value is out of range"})
    static void promise7ValueOutOfRange() {
        int[] most = {20, 20, 20, 1, 50};
        for (int setting = 0; setting <= 4; setting++) {
            int s = setting;
            for (int value : new int[] {0, 1, most[s]}) {
                Boundary.allows("setting " + s + " as " + value, value, Boundary::busy, x -> {
                    x.set(s, value);
                    return x.setting(s);
                });
            }
            for (int value : new int[] {-1, most[s] + 1, FAR[0], FAR[3]}) {
                Boundary.refuses("setting " + s + " as " + value, Boundary.ARGUMENT, Boundary::roomy,
                        x -> x.set(s, value));
            }
        }
    }

    // ---- 8: pass

    @Boundary.Holds(in = "Promise 8", says = {"Lets ticks pass.", "Undoable, as one call."})
    static void promise8LetsTicksPass() {
        GossipCounts g = Boundary.roomy();
        int states = g.count(13);
        int time = g.count(0);
        g.pass(100);
        Boundary.is("the time", g.count(0), time + 100);
        Boundary.is("one saved state", g.count(13), states + 1);
        Boundary.undoable("100 ticks", Boundary::roomy, x -> x.pass(100));
        Boundary.undoable("1 tick", Boundary::roomy, x -> x.pass(1));
        GossipCounts one = Boundary.busy();
        GossipCounts many = Boundary.busy();
        one.pass(9);
        for (int n = 0; n < 9; n++) {
            many.pass(1);
        }
        for (int n = 0; n < 6; n++) {
            one.set(4, n);
            many.set(4, n);
        }
        Boundary.is("as nine calls of one tick do", one.digest(), many.digest());
    }

    @Boundary.Holds(in = "Promise 8", says = {"`ticks`: 1 to 100",
        "Throws `IllegalArgumentException` if ticks is out of range"})
    static void promise8Ticks1To100() {
        Boundary.allows("1", 2, Boundary::busy, x -> x.pass(1) + x.count(0));
        Boundary.allows("100", 100, GossipCounts::new, x -> x.pass(100) + x.count(0));
        for (int wrong : new int[] {0, -1, 101, FAR[0], FAR[3]}) {
            Boundary.refuses("ticks " + wrong, Boundary.ARGUMENT, Boundary::roomy, x -> x.pass(wrong));
        }
    }

    @Boundary.Holds(in = "Promise 8", says = "Returns how many things end in them.")
    static void promise8HowManyEndInThem() {
        GossipCounts g = full();
        Boundary.is("none", g.pass(1), 0);
        for (int thing = 0; thing < 24; thing++) {
            g.slander(thing, -1);
        }
        Boundary.is("those of gossip 0", g.pass(1), 8);
        Boundary.is("in the next tick those of gossip 2, not the ones before", g.pass(1), 8);
        Boundary.is("the others", g.pass(1), 8);
        Boundary.is("no more", g.pass(100), 0);
        g.undo();
        g.undo();
        g.undo();
        g.undo();
        Boundary.is("all in one call", g.pass(100), 24);
        GossipCounts kinds = Boundary.quick(2);
        kinds.put(0, 0, 0);
        kinds.suspect(0);
        kinds.set(1, 1);
        kinds.set(4, 1);
        kinds.slander(1, -1);
        Boundary.is("by counts and in trials", kinds.pass(1), 2);
    }

    @Boundary.Holds(in = "Promise 8", says = "Throws `IllegalStateException` if the time would be above 5000")
    static void promise8TimeUpTo5000() {
        Boundary.allows("from 4900 to 5000", 5000, () -> Boundary.late(Boundary.slow(1), 4900),
                x -> x.pass(100) + x.count(0));
        Boundary.allows("from 4999 to 5000", 5000, () -> Boundary.late(Boundary.slow(1), 4999),
                x -> x.pass(1) + x.count(0));
        Boundary.refuses("from 4901 to 5001", Boundary.STATE, () -> Boundary.late(Boundary.slow(1), 4901),
                x -> x.pass(100));
        Boundary.refuses("from 4999 to 5001", Boundary.STATE, () -> Boundary.late(Boundary.slow(1), 4999),
                x -> x.pass(2));
        Boundary.refuses("from 5000 to 5001", Boundary.STATE, () -> Boundary.late(Boundary.slow(1), 5000),
                x -> x.pass(1));
        Boundary.refuses("no tick passes, though 49 could", Boundary.STATE, () -> {
            GossipCounts g = Boundary.late(Boundary.slow(1), 4951);
            g.slander(0, -1);
            return g;
        }, x -> x.pass(50));
        Boundary.refuses("ticks come first", Boundary.ARGUMENT, () -> Boundary.late(Boundary.slow(1), 5000),
                x -> x.pass(101));
    }

    // ---- 9: trial

    @Boundary.Holds(in = "Promise 9", says = {"Holds a trial.", "Undoable.",
        "Returns how many things end by it (those that end by counts because of it, too)."})
    static void promise9HowManyEndByIt() {
        Boundary.allows("without things", 0, GossipCounts::new, GossipCounts::trial);
        Boundary.allows("without suspects", 0, Promises01To10Test::full, GossipCounts::trial);
        GossipCounts g = Boundary.quick(24);
        for (int n = 0; n < 22; n++) {
            g.put(n, 0, n + 1);
        }
        g.put(22, 0, 0);
        g.suspect(5);
        Boundary.undoable("a ring", Promises01To10Test::roomyRing, GossipCounts::trial);
        Boundary.is("a ring of 23", g.trial() * 100 + g.count(8), 2323);
        Boundary.is("time stands still", g.count(0), 0);
        GossipCounts later = Boundary.quick(3);
        later.put(0, 0, 1);
        later.put(1, 0, 2);
        later.take(0, 1);
        later.slander(1, 1);
        later.suspect(0);
        Boundary.is("1 is innocent", later.trial(), 1);
        GossipCounts counts = Boundary.quick(4);
        counts.put(0, 0, 1);
        counts.put(0, 1, 2);
        counts.put(2, 0, 1);
        counts.take(0, 2);
        counts.slander(1, -1);
        counts.put(1, 0, 3);
        counts.suspect(0);
        Boundary.is("0 in it, 1 and what 1 held by counts", counts.trial() * 10 + counts.count(8), 31);
        GossipCounts delayed = Boundary.quick(2);
        delayed.put(0, 0, 1);
        delayed.take(0, 1);
        delayed.slander(1, -1);
        delayed.slander(1, 1);
        delayed.suspect(0);
        delayed.set(1, 1);
        Boundary.is("what is heard later does not count", delayed.trial() * 10 + delayed.count(5), 11);
    }

    private static GossipCounts roomyRing() {
        GossipCounts g = Boundary.quick(4);
        g.put(0, 0, 1);
        g.put(1, 0, 0);
        g.put(1, 1, 2);
        g.suspect(1);
        for (int n = 0; n < 3; n++) {
            g.take(1, 3);
        }
        for (int n = 0; n < 3; n++) {
            g.undo();
        }
        return g;
    }

    // ---- 10: audit

    @Boundary.Holds(in = "Promise 10", says = {"Sets the counts of all things that live right: each becomes its truth "
            + "less the sum of the reports for it that are under way.", "Undoable.",
        "Returns how many counts change."})
    static void promise10SetsCountsRight() {
        Boundary.allows("without things", 0, GossipCounts::new, GossipCounts::audit);
        Boundary.allows("all are right", 0, () -> Boundary.slow(24), GossipCounts::audit);
        GossipCounts all = Boundary.quick(24);
        for (int thing = 0; thing < 24; thing++) {
            all.slander(thing, 1);
        }
        Boundary.is("all 24 change", all.audit() * 10 + all.audit(), 240);
        Boundary.is("to the truth", all.thing(0, 2) + all.thing(23, 2), 0);
        GossipCounts g = Boundary.slow(2);
        g.take(0, 0);
        Boundary.is("a +1 of a change is under way: right", g.audit() * 10 + g.thing(0, 2), 0);
        g.slander(0, 1);
        Boundary.is("a false +1, too: one less", g.audit() * 10 + g.thing(0, 2), 9);
        g.slander(0, -1);
        g.slander(0, -1);
        Boundary.is("two of -1, too: one more", g.audit() * 10 + g.thing(0, 2), 11);
        g.pass(1);
        Boundary.is("behind them it is its truth", g.thing(0, 2) * 10 + g.count(12), 10);
        Boundary.undoable("audit", () -> {
            GossipCounts h = Boundary.roomy();
            h.slander(4, 1);
            return h;
        }, GossipCounts::audit);
    }

    @Boundary.Holds(in = "Promise 10", says = "Sets the counts of all things that live right")
    static void promise10OnlyCountsOfThingsThatLive() {
        GossipCounts g = Boundary.quick(3);
        g.take(0, 0);
        g.take(1, 0);
        g.slander(0, -1);
        g.slander(1, -1);
        Boundary.is("one of those that live", g.audit(), 1);
        Boundary.is("what ended keeps its count", g.thing(1, 2), -1);
        Boundary.is("a suspect stays one", g.thing(0, 6), 1);
        Boundary.is("no slander is found", g.count(10), 0);
        GossipCounts zero = Boundary.quick(1);
        zero.slander(0, 1);
        Boundary.is("a count that becomes 0 ends nothing", zero.audit() * 10 + zero.thing(0, 0), 11);
    }
}
