/** The promises one by one, with answers worked out by hand from the words of the document. */
public final class PromisesTest {
    private static final int NONE = GossipCounts.NONE;

    public static void main(String[] args) {
        promise1NewObject();
        promise2Add();
        promise3Take();
        promise4Put();
        promise5Slander();
        promise6Suspect();
        promise7Set();
        promise8Pass();
        promise9Trial();
        promise9TrialLetsGo();
        promise10Audit();
        promise11Append();
        promise12ClearBuffer();
        promise13FirstError();
        promise14Run();
        promise14RunStops();
        promise15Undo();
        promise16Thing();
        promise17And18SlotAndHand();
        promise19Report();
        promise20Ended();
        promise21Count();
        promise22Setting();
        promise23IfPassed();
        promise24EndsIn();
        promise25IfTried();
        promise26Ring();
        promise27BestCut();
        promise28Bears();
        promise29ReachedShare();
        promise30Digest();
        termsEndsByCounts();
        termsOrderOfHearing();
        termsProofs();
        termsWronged();
        looksChangeNothing();
        whatThrowsChangesNothing();
        Check.end();
    }

    // ---- helpers

    /** So many things of rank 0, with all delays 0, so that reports are heard at once. */
    private static GossipCounts quick(int things) {
        GossipCounts g = new GossipCounts();
        delays(g, 0);
        for (int n = 0; n < things; n++) {
            g.add(0);
        }
        return g;
    }

    private static void delays(GossipCounts g, int delay) {
        g.set(0, delay);
        g.set(1, delay);
        g.set(2, delay);
    }

    private static void type(GossipCounts g, String text) {
        g.clearBuffer();
        for (char c : text.toCharArray()) {
            g.append(c);
        }
    }

    private static Object runs(GossipCounts g, String text) {
        type(g, text);
        return Check.outcome(g::run);
    }

    private static void is(String what, Object got, Object want) {
        Check.equal(what, got, want);
    }

    // ---- promises

    private static void promise1NewObject() {
        GossipCounts g = new GossipCounts();
        is("NONE", GossipCounts.NONE, -1);
        for (int what = 0; what <= 13; what++) {
            is("1: count(" + what + ")", g.count(what), 0);
        }
        for (int hand = 0; hand < 4; hand++) {
            is("1: hand(" + hand + ")", g.hand(hand), NONE);
        }
        int[] settings = {1, 3, 2, 0, 0};
        for (int s = 0; s < 5; s++) {
            is("1: setting(" + s + ")", g.setting(s), settings[s]);
        }
        is("1: clearBuffer", g.clearBuffer(), 0);
        Check.badState("1: undo", g::undo);
        Check.noThing("1: thing(0, 0)", () -> g.thing(0, 0));
    }

    private static void promise2Add() {
        GossipCounts g = quick(0);
        Check.badArgument("2: add(-1)", () -> g.add(-1));
        Check.badArgument("2: add(10)", () -> g.add(10));
        g.pass(7);
        is("2: add(9)", g.add(9), 0);
        is("2: add(0)", g.add(0), 1);
        is("2: rank", g.thing(0, 1), 9);
        is("2: came", g.thing(1, 8), 7);
        is("2: count", g.thing(1, 2), 0);
        is("2: no report", g.count(6), 0);
        g.slander(0, -1);
        is("2: ended", g.thing(0, 0), 0);
        for (int n = 2; n < 24; n++) {
            is("2: add number " + n, g.add(n % 10), n);
        }
        Check.badState("2: a 25th thing, though one has ended", () -> g.add(0));
        Check.badArgument("2: a wrong rank comes first", () -> g.add(10));
        is("2: things", g.count(1), 24);
        g.undo();
        is("2: undone", g.count(1), 23);
        is("2: the number is free again", g.add(3), 23);
    }

    private static void promise3Take() {
        GossipCounts g = new GossipCounts();
        g.add(0);
        g.add(0);
        is("3: take", g.take(0, 0), NONE);
        is("3: take another", g.take(0, 1), 0);
        is("3: reports", g.count(6), 3);
        is("3: take the same", g.take(0, 1), 1);
        is("3: both reports for the same", g.count(6), 5);
        is("3: let go", g.take(0, NONE), 1);
        is("3: one report", g.count(6), 6);
        int states = g.count(13);
        is("3: nothing for nothing", g.take(0, NONE), NONE);
        is("3: no report", g.count(6), 6);
        is("3: 6 states at most", g.count(13), Math.min(6, states + 1));
        Check.noThing("3: hand 4", () -> g.take(4, NONE));
        Check.noThing("3: hand -1", () -> g.take(-1, 0));
        Check.noThing("3: thing 2", () -> g.take(0, 2));
        Check.noThing("3: thing -2", () -> g.take(0, -2));
        GossipCounts h = quick(1);
        h.slander(0, -1);
        Check.badState("3: an ended thing", () -> h.take(0, 0));
        Check.noThing("3: a wrong hand comes first", () -> h.take(4, 0));
        GossipCounts k = quick(1);
        k.take(0, 0);
        is("3: heard at once", k.thing(0, 2), 1);
        k.take(0, 0);
        is("3: +1 is heard ahead of -1", k.thing(0, 0) * 10 + k.thing(0, 2), 11);
        is("3: -1 with a count above 0 makes a suspect", k.thing(0, 6), 1);
        k.take(0, NONE);
        is("3: ended at once", k.thing(0, 0), 0);
    }

    private static void promise4Put() {
        GossipCounts g = quick(3);
        is("4: put", g.put(0, 3, 1), NONE);
        is("4: put another", g.put(0, 3, 2), 1);
        is("4: what was let go has ended", g.thing(1, 0), 0);
        is("4: put nothing", g.put(0, 0, NONE), NONE);
        is("4: put itself", g.put(0, 0, 0), NONE);
        is("4: holds itself", g.thing(0, 3), 1);
        Check.noThing("4: thing 3", () -> g.put(3, 0, NONE));
        Check.noThing("4: thing -1", () -> g.put(-1, 0, NONE));
        Check.noThing("4: slot 4", () -> g.put(0, 4, NONE));
        Check.noThing("4: slot -1", () -> g.put(0, -1, NONE));
        Check.noThing("4: other 3", () -> g.put(0, 0, 3));
        Check.noThing("4: other -2", () -> g.put(0, 0, -2));
        Check.badState("4: the thing has ended", () -> g.put(1, 0, NONE));
        Check.badState("4: the other has ended", () -> g.put(0, 0, 1));
        Check.noThing("4: ended, but no such other", () -> g.put(1, 0, 3));
        Check.noThing("4: ended, but no such slot", () -> g.put(1, 4, 1));
        int before = g.count(6);
        g.put(0, 3, 2);
        is("4: the same again, two reports", g.count(6), before + 2);
        is("4: undo", g.undo() >= 0 && g.count(6) == before, true);
    }

    private static void promise5Slander() {
        GossipCounts g = new GossipCounts();
        g.add(0);
        g.add(0);
        g.take(0, 0);
        is("5: its number", g.slander(1, 1), 1);
        is("5: its number", g.slander(1, -1), 2);
        is("5: false", g.report(1, 4), 1);
        is("5: due by the delay of gossip 1", g.report(1, 3), 3);
        is("5: the truth stays", g.thing(1, 3), 0);
        Check.noThing("5: thing 2", () -> g.slander(2, 1));
        Check.noThing("5: no thing comes first", () -> g.slander(2, 0));
        for (int by : new int[] {0, 2, -2}) {
            Check.badArgument("5: by " + by, () -> g.slander(0, by));
        }
        GossipCounts h = quick(2);
        h.slander(0, 1);
        is("5: heard at once", h.thing(0, 2), 1);
        h.slander(0, -1);
        is("5: ended by slander", h.thing(0, 11), 1);
        Check.badState("5: has ended", () -> h.slander(0, -1));
        Check.badArgument("5: by comes ahead of the end", () -> h.slander(0, 0));
    }

    private static void promise6Suspect() {
        GossipCounts g = quick(3);
        is("6: one", g.suspect(2), 1);
        is("6: two", g.suspect(0), 2);
        Check.badState("6: is a suspect", () -> g.suspect(2));
        Check.noThing("6: no thing", () -> g.suspect(3));
        Check.noThing("6: no thing", () -> g.suspect(-1));
        g.slander(1, -1);
        Check.badState("6: has ended", () -> g.suspect(1));
        g.undo();
        g.undo();
        is("6: undone", g.count(4), 1);
        is("6: no reports", g.count(5), 0);
    }

    private static void promise7Set() {
        GossipCounts g = new GossipCounts();
        int[] first = {1, 3, 2, 0, 0};
        int[] most = {20, 20, 20, 1, 50};
        for (int s = 0; s < 5; s++) {
            int setting = s;
            Check.badArgument("7: below", () -> g.set(setting, -1));
            Check.badArgument("7: above", () -> g.set(setting, most[setting] + 1));
            is("7: set " + s, g.set(s, most[s]), first[s]);
            is("7: set " + s, g.set(s, 0), most[s]);
        }
        Check.noThing("7: setting 5", () -> g.set(5, 0));
        Check.noThing("7: setting -1 comes first", () -> g.set(-1, -1));
        is("7: six states", g.count(13), 6);
        GossipCounts h = new GossipCounts();
        h.add(0);
        h.set(0, 5);
        h.slander(0, 1);
        h.set(0, 0);
        is("7: keeps its due time", h.report(0, 3), 5);
        is("7: not heard by set", h.count(5), 1);
        h.slander(0, 1);
        is("7: the later one is heard first", h.count(5) * 10 + h.thing(0, 2), 11);
        is("7: saves also when nothing changes", h.set(3, 0) + h.count(13), 6);
    }

    private static void promise8Pass() {
        GossipCounts g = new GossipCounts();
        Check.badArgument("8: 0", () -> g.pass(0));
        Check.badArgument("8: 101", () -> g.pass(101));
        Check.badArgument("8: -1", () -> g.pass(-1));
        for (int n = 0; n < 3; n++) {
            g.add(0);
        }
        g.take(0, 0);
        g.put(0, 0, 1);
        g.put(1, 0, 2);
        is("8: nothing ends", g.pass(10), 0);
        g.take(0, NONE);
        is("8: one ends", g.pass(1), 1);
        is("8: its own report has 3 ticks to go", g.pass(2), 0);
        is("8: two more end", g.pass(100), 2);
        is("8: time of the end", g.thing(2, 10), 16);
        g.undo();
        is("8: undone as one", g.count(0), 13);
        GossipCounts h = new GossipCounts();
        for (int n = 0; n < 50; n++) {
            h.pass(100);
        }
        is("8: 5000", h.count(0), 5000);
        Check.badState("8: above 5000", () -> h.pass(1));
        Check.badArgument("8: the argument comes first", () -> h.pass(101));
        is("8: ahead of 5000", h.ifPassed(100, 0), 0);
        h.undo();
        Check.answers("8: up to 5000", 0, () -> h.pass(100));
        h.undo();
        h.pass(1);
        Check.badState("8: 5001", () -> h.pass(100));
        GossipCounts t = quick(2);
        t.put(0, 0, 0);
        t.set(4, 3);
        t.suspect(0);
        is("8: no trial yet", t.pass(2), 0);
        is("8: the trial of tick 3", t.pass(1), 1);
        is("8: in the trial", t.thing(0, 11), 2);
        t.suspect(1);
        is("8: behind tick 5", t.pass(2), 0);
        is("8: the trial of tick 6", t.pass(1), 1);
        t.set(4, 1);
        t.add(0);
        t.suspect(2);
        is("8: a trial in each tick", t.pass(1), 1);
    }

    private static void promise9Trial() {
        GossipCounts g = new GossipCounts();
        is("9: nothing to try", g.trial(), 0);
        is("9: saved all the same", g.count(13), 1);
        delays(g, 0);
        int[] ranks = {3, 7, 7, 1, 5};
        for (int rank : ranks) {
            g.add(rank);
        }
        // A ring 0 > 1 > 2 > 0, which holds 3; 4 is held by 0 and by a hand.
        g.put(0, 0, 1);
        g.put(1, 0, 2);
        g.put(2, 0, 0);
        g.put(1, 1, 3);
        g.put(0, 1, 4);
        g.take(0, 4);
        int reports = g.count(6);
        g.suspect(2);
        is("9: four end", g.trial(), 4);
        int[] order = {1, 2, 0, 3};
        for (int end = 0; end < 4; end++) {
            is("9: rank, then number: end " + end, g.ended(end), order[end]);
            is("9: in a trial", g.thing(order[end], 11), 2);
            is("9: nobody was wronged", g.thing(order[end], 12), 0);
        }
        is("9: one report, for what lives", g.count(6), reports + 1);
        is("9: the innocent lives", g.thing(4, 0) * 10 + g.thing(4, 2), 11);
        is("9: and is a suspect by the report of -1", g.thing(4, 6), 1);
        is("9: but not tried in this trial", g.count(4), 1);
        is("9: tried in the next, innocent", g.trial() + g.count(4), 0);
        is("9: ends in trials", g.count(8), 4);
        g.take(0, NONE);
        is("9: ended by its count", g.thing(4, 11), 1);
        // Among things that reach one another the one with a rest makes all that it reaches innocent.
        GossipCounts h = quick(4);
        h.put(0, 0, 1);
        h.put(1, 0, 2);
        h.put(2, 0, 1);
        h.put(3, 0, 1);
        h.suspect(0);
        is("9: only 0 ends, 1 is held from outside the set", h.trial(), 1);
        is("9: 0", h.ended(0), 0);
        is("9: 1 and 2 live", h.thing(1, 0) + h.thing(2, 0), 2);
    }

    private static void promise9TrialLetsGo() {
        // A report under way keeps the suspect.
        GossipCounts g = quick(2);
        g.put(0, 0, 0);
        g.put(0, 1, 1);
        g.set(1, 2);
        g.slander(1, 1);
        g.suspect(0);
        is("9: nothing ends", g.trial(), 0);
        is("9: stays a suspect", g.thing(0, 6), 1);
        g.pass(2);
        is("9: the report for 1 was heard, 1 has a rest", g.trial(), 1);
        is("9: 1 is innocent", g.thing(1, 0), 1);
        // 0 ends, and its -1 for 2 ends 2 by a count that slander made too low; 1, held by a hand, keeps living.
        GossipCounts h = quick(3);
        h.put(0, 0, 0);
        h.put(0, 1, 1);
        h.put(0, 2, 2);
        h.put(1, 0, 2);
        h.take(0, 1);
        h.slander(2, -1);
        h.suspect(0);
        is("9: suspects 0 and 2", h.count(4), 2);
        is("9: an end by a count because of the trial counts, too", h.trial(), 2);
        is("9: 0 in the trial, 2 by its count", h.thing(0, 11) * 10 + h.thing(2, 11), 21);
        is("9: 2 was wronged by the slot of 1", h.thing(2, 12) * 10 + h.slot(1, 0), 10 + NONE);
        is("9: 1 became a suspect meanwhile, and was not tried", h.thing(1, 6), 1);
        is("9: one end in trials", h.count(8), 1);
        // A hand does not help what has no rest.
        GossipCounts k = quick(3);
        k.put(0, 0, 0);
        k.put(0, 1, 1);
        k.take(0, 1);
        k.put(1, 0, 2);
        k.slander(1, -1);
        k.suspect(0);
        is("9: 1 has 1 - 1, so all end", k.trial(), 3);
        is("9: 1 was wronged by the hand", k.thing(1, 12), 1);
        is("9: the hand is empty", k.hand(0), NONE);
        is("9: 0 and 2 were not wronged", k.thing(0, 12) + k.thing(2, 12), 0);
        is("9: no report for what ends together", k.count(6), 5);
        // By their numbers, each with the set that there is by then.
        GossipCounts d = quick(3);
        d.put(0, 0, 0);
        d.put(0, 1, 1);
        d.put(2, 0, 1);
        d.put(2, 1, 2);
        d.suspect(2);
        d.suspect(0);
        is("9: 0, then 2 with 1", d.trial(), 3);
        is("9: the ends in order", d.ended(0) * 100 + d.ended(1) * 10 + d.ended(2), 12);
        // The reports that the trial of 0 makes are under way when 1 is tried.
        GossipCounts e = quick(2);
        e.put(0, 0, 0);
        e.put(0, 1, 1);
        e.put(1, 0, 1);
        e.slander(1, 1);
        e.set(1, 4);
        e.suspect(0);
        e.suspect(1);
        is("9: 0 ends", e.trial(), 1);
        is("9: 1 stays a suspect", e.thing(1, 6), 1);
        is("9: by the report under way", e.report(0, 1) * 10 + e.report(0, 3), 14);
    }

    private static void promise10Audit() {
        GossipCounts g = quick(3);
        g.take(0, 0);
        g.take(1, 0);
        g.slander(0, -1);
        g.slander(1, 1);
        is("10: two counts are wrong", g.count(12), 2);
        is("10: two change", g.audit(), 2);
        is("10: right", g.thing(0, 2) * 10 + g.thing(1, 2), 20);
        is("10: none change", g.audit(), 0);
        is("10: nothing ends by it", g.count(2), 3);
        is("10: still a suspect", g.thing(0, 6), 1);
        g.set(0, 4);
        g.slander(0, -1);
        g.slander(0, -1);
        g.take(2, 0);
        is("10: the reports under way are taken off", g.audit(), 1);
        is("10: 3 - (-1)", g.thing(0, 2), 4);
        g.undo();
        is("10: undone", g.thing(0, 2), 2);
        GossipCounts h = quick(1);
        h.slander(0, -1);
        is("10: what ended is left alone", h.audit() * 10 + h.thing(0, 2), -1);
    }

    private static void promise11Append() {
        GossipCounts g = new GossipCounts();
        Check.badArgument("11: 32", () -> g.append(32));
        Check.badArgument("11: 127", () -> g.append(127));
        Check.badArgument("11: -5", () -> g.append(-5));
        is("11: 33", g.append(33), 1);
        is("11: 126", g.append(126), 2);
        for (int n = 3; n <= 60; n++) {
            is("11: length", g.append('n'), n);
        }
        Check.badState("11: a 61st", () -> g.append('n'));
        Check.badArgument("11: the code comes first", () -> g.append(32));
        is("11: not undoable", g.count(13), 0);
        is("11: kept", g.clearBuffer(), 60);
    }

    private static void promise12ClearBuffer() {
        GossipCounts g = new GossipCounts();
        type(g, "n1;");
        is("12: 3", g.clearBuffer(), 3);
        is("12: 0", g.clearBuffer(), 0);
        is("12: not undoable", g.count(13), 0);
        is("12: a new text", g.append('j'), 1);
        is("12: and runs", g.run(), 1);
    }

    private static void promise13FirstError() {
        Object[][] cases = {
            {"", 0}, {"n", 1}, {"n0", 2}, {"n9", 2}, {"n99", 2}, {"n:", 1}, {"n/", 1}, {"n-", 1}, {"x", 0},
            {";", 0}, {"n1;", 3}, {"n1;;", 3}, {"h", 1}, {"h3", 2}, {"h4", 1}, {"h0=", 3}, {"h00", 2}, {"h0-", 2},
            {"h0=-", 4}, {"h0=--", 4}, {"h0=-;", 5}, {"h0=0", 4}, {"h0=00", 4}, {"h0=05", 4}, {"h0=9", 4},
            {"h0=90", 4}, {"h0=1", 4}, {"h0=19", 5}, {"h0=199", 5}, {"h0=2", 4}, {"h0=23", 5}, {"h0=24", 4},
            {"h0=233", 5}, {"h0=3", 4}, {"h0=30", 4}, {"h0=1;", 5}, {"h0=2;j", 6}, {"h0=.", 3}, {"s", 1}, {"s-", 1},
            {"s0", 2}, {"s0.", 3}, {"s00", 2}, {"s1", 2}, {"s1.", 3}, {"s19.3=23", 8}, {"s2.", 3}, {"s23.", 4},
            {"s24", 2}, {"s3.", 3}, {"s30", 2}, {"s0=", 2}, {"s0.4", 3}, {"s0.3=-", 6}, {"s0.3-", 4}, {"s10.0=1", 7},
            {"s123", 3}, {"t", 1}, {"t0", 1}, {"t1", 2}, {"t99", 3}, {"t100", 3}, {"t10", 3}, {"t1;", 3}, {"t-", 1},
            {"j", 1}, {"jj", 1}, {"j;j", 3}, {"j;", 2}, {"J", 0}, {"n1;h0=0;s0.0=0;t5;j", 19}, {"n1,n2", 2},
            {"n1;n2;q;n3", 6}, {"q;q", 0}, {"t:", 1}, {"t1:", 2}, {"h0=:", 3}, {"h0=1:", 4}, {"h0=20", 5}, {"h0=2/", 4},
            {"s:", 1}, {"s1:", 2}, {"s20.", 4}, {"s2/", 2}, {"s/", 1}, {"t/", 1}, {"t1/", 2}, {"s0/", 2}, {"h0/", 2}
        };
        for (Object[] c : cases) {
            GossipCounts g = new GossipCounts();
            type(g, (String) c[0]);
            is("13: " + c[0], g.firstError(), c[1]);
            is("13: the buffer is kept", g.clearBuffer(), ((String) c[0]).length());
        }
        GossipCounts full = new GossipCounts();
        type(full, "n1;".repeat(20));
        is("13: a full buffer that some longer program begins with", full.firstError(), 60);
        Check.badArgument("14: and it is not complete", full::run);
    }

    private static void promise14Run() {
        GossipCounts g = new GossipCounts();
        for (String text : new String[] {"", "n", "n1;", "h0=", "h0", "s0.0=", "s0", "s0.", "t", "x", "j;;j", "h0=24",
            "t0", "n1 ", "q"}) {
            if (text.indexOf(' ') < 0) {
                is("14: not complete: " + text, runs(g, text), "throws.IllegalArgumentException");
                is("14: the buffer is kept", g.clearBuffer(), text.length());
            }
        }
        is("14: nothing was saved", g.count(13), 0);
        is("14: five steps", runs(g, "n7;n1;h3=1;s1.2=0;t20"), 5);
        is("14: the buffer is empty", g.clearBuffer(), 0);
        is("14: rank", g.thing(0, 1), 7);
        is("14: hand", g.hand(3), 1);
        is("14: slot", g.slot(1, 2), 0);
        is("14: time", g.count(0), 20);
        is("14: counts", g.thing(0, 2) * 10 + g.thing(1, 2), 11);
        is("14: one saved state", g.count(13), 1);
        is("14: nothing is held any more", runs(g, "h3=-;t9"), 2);
        is("14: all ended", g.count(2), 0);
        is("14: undone as one", g.undo() * 10 + g.count(2), 12);
        is("14: undone", g.undo() * 10 + g.count(1), 0);
        is("14: ends with a number of two digits", runs(g, "n0;n0;n0;n0;n0;n0;n0;n0;n0;n0;n0;n0;n0;n0;n0;n0;n0;n0;t10"),
                19);
        is("14: 17 things more", runs(g, "h0=17;h1=10;s10.3=17;s17.0=10;s9.0=-;h0=9"), 6);
        is("14: hands", g.hand(0) * 100 + g.hand(1), 910);
        is("14: slots", g.slot(10, 3) * 100 + g.slot(17, 0), 1710);
    }

    private static void promise14RunStops() {
        GossipCounts g = quick(1);
        is("14: no such thing", runs(g, "n1;h0=5;n1"), 1);
        is("14: one thing came", g.count(1), 2);
        is("14: no step is done", runs(g, "h0=23"), 0);
        is("14: saved all the same", g.count(13), 6);
        is("14: no such other", runs(g, "j;s0.0=9"), 1);
        is("14: no such owner", runs(g, "j;j;s9.0=-"), 2);
        g.slander(0, -1);
        is("14: has ended", runs(g, "h0=0"), 0);
        is("14: the owner has ended", runs(g, "s0.0=-"), 0);
        is("14: the other has ended", runs(g, "s1.0=0"), 0);
        is("14: nothing for a hand", runs(g, "h0=-"), 1);
        is("14: a trial", runs(g, "s1.0=1;s1.1=1;s1.1=-;j"), 4);
        is("14: the ring ended in it", g.thing(1, 11), 2);
        for (int n = 2; n < 24; n++) {
            g.add(0);
        }
        is("14: a 25th thing", runs(g, "j;n0;j"), 1);
        GossipCounts h = new GossipCounts();
        for (int n = 0; n < 49; n++) {
            h.pass(100);
        }
        is("14: above 5000", runs(h, "t99;t1;t1;j"), 2);
        is("14: the time", h.count(0), 5000);
    }

    private static void promise15Undo() {
        GossipCounts g = new GossipCounts();
        Check.badState("15: nothing", g::undo);
        for (int n = 0; n < 8; n++) {
            g.add(n);
        }
        is("15: six states", g.count(13), 6);
        for (int n = 5; n >= 0; n--) {
            is("15: undo", g.undo(), n);
            is("15: things", g.count(1), n + 2);
        }
        Check.badState("15: no more", g::undo);
        is("15: two are left", g.count(1), 2);
        is("15: nothing is saved by undo", g.count(13), 0);
        type(g, "n3");
        g.add(1);
        g.undo();
        is("15: the buffer is kept", g.clearBuffer(), 2);
        GossipCounts h = new GossipCounts();
        h.add(0);
        h.add(0);
        h.take(0, 0);
        h.put(0, 0, 1);
        long before = h.digest();
        h.pass(3);
        h.take(0, NONE);
        is("15: six states, none dropped yet", h.count(13), 6);
        h.undo();
        is("15: the count of then", h.thing(0, 2) * 10 + h.count(5), 10);
        h.undo();
        is("15: all is as it was, reports too", h.digest(), before);
        h.pass(3);
        h.take(0, NONE);
        h.pass(4);
        is("15: both end", h.count(7), 2);
        h.undo();
        is("15: they live again", h.count(2) * 10 + h.count(7), 20);
        is("15: with the report of then", h.report(0, 3), 4);
        is("15: and end again", h.pass(4), 2);
        GossipCounts a = quick(1);
        a.take(0, 0);
        a.take(1, 0);
        a.slander(0, -1);
        a.audit();
        is("15: audit undone", a.thing(0, 2), 2);
        a.undo();
        is("15: audit undone", a.thing(0, 2), 1);
        a.undo();
        is("15: slander undone", a.thing(0, 2) * 10 + a.thing(0, 6), 20);
    }

    private static void promise16Thing() {
        GossipCounts g = new GossipCounts();
        g.pass(4);
        g.add(6);
        g.add(2);
        g.take(2, 0);
        g.put(0, 1, 1);
        g.slander(1, -1);
        int[] first = {1, 6, 0, 1, 1, 1, 0, 1, 4, NONE, NONE, 0, 0};
        int[] second = {1, 2, 0, 1, 2, 0, 0, 1, 4, NONE, NONE, 0, 0};
        for (int what = 0; what <= 12; what++) {
            is("16: 0, " + what, g.thing(0, what), first[what]);
            is("16: 1, " + what, g.thing(1, what), second[what]);
        }
        g.pass(3);
        int[] later = {0, 2, 0, 0, 0, 0, 0, 0, 4, 0, 7, 1, 1};
        for (int what = 0; what <= 12; what++) {
            is("16: ended, " + what, g.thing(1, what), later[what]);
        }
        Check.noThing("16: thing 2", () -> g.thing(2, 0));
        Check.noThing("16: no thing comes first", () -> g.thing(-1, 13));
        Check.badArgument("16: 13", () -> g.thing(1, 13));
        Check.badArgument("16: -1", () -> g.thing(1, -1));
        // Reports for a thing that has ended are under way until they are heard.
        GossipCounts h = quick(1);
        h.set(0, 4);
        h.slander(0, 1);
        h.set(0, 1);
        h.slander(0, -1);
        is("16: kept by the later report", h.pass(1) + h.thing(0, 2), -1);
        GossipCounts k = quick(1);
        k.put(0, 0, 0);
        k.suspect(0);
        k.trial();
        is("16: its count as it was last", k.thing(0, 2), 1);
        is("16: no truth", k.thing(0, 3), 0);
        is("16: in a trial", k.thing(0, 11), 2);
    }

    private static void promise17And18SlotAndHand() {
        GossipCounts g = quick(2);
        g.put(0, 0, 1);
        g.put(0, 3, 0);
        g.take(1, 1);
        is("17: 0", g.slot(0, 0), 1);
        is("17: 1", g.slot(0, 1), NONE);
        is("17: 3", g.slot(0, 3), 0);
        is("18: 1", g.hand(1), 1);
        is("18: 0", g.hand(0), NONE);
        Check.noThing("17: thing", () -> g.slot(2, 0));
        Check.noThing("17: thing", () -> g.slot(-1, 0));
        Check.noThing("17: slot", () -> g.slot(0, 4));
        Check.noThing("17: slot", () -> g.slot(0, -1));
        Check.noThing("18: hand", () -> g.hand(4));
        Check.noThing("18: hand", () -> g.hand(-1));
        g.suspect(0);
        g.slander(0, -1);
        is("17: empty behind the end", g.slot(0, 0) + g.slot(0, 3), 2 * NONE);
    }

    private static void promise19Report() {
        GossipCounts g = new GossipCounts();
        for (int n = 0; n < 4; n++) {
            g.add(0);
        }
        g.take(0, 1);
        g.take(1, 2);
        g.take(1, 0);
        g.slander(3, -1);
        // Numbers and due times: 0: thing 1, 3; 1: thing 2, 2; 2: thing 0, 1; 3: -1 for 2, 2; 4: false for 3, 1.
        int[][] due = {{2, 0, 1, 1, 0}, {4, 3, -1, 1, 1}, {1, 2, 1, 2, 0}, {3, 2, -1, 2, 0}, {0, 1, 1, 3, 0}};
        for (int place = 0; place < 5; place++) {
            for (int what = 0; what < 5; what++) {
                is("19: " + place + ", " + what, g.report(place, what), due[place][what]);
            }
        }
        Check.noThing("19: place 5", () -> g.report(5, 0));
        Check.noThing("19: no place comes first", () -> g.report(-1, 5));
        Check.badArgument("19: 5", () -> g.report(4, 5));
        Check.badArgument("19: -1", () -> g.report(0, -1));
        g.pass(1);
        is("19: two were heard", g.report(0, 0), 1);
        GossipCounts h = quick(2);
        h.put(0, 0, 1);
        h.put(0, 1, 1);
        h.set(1, 2);
        h.slander(0, -1);
        is("19: of an end, which is not false", h.report(0, 4) * 10 + h.report(0, 2), -1);
        is("19: both of an end", h.report(1, 0) * 100 + h.report(1, 1) * 10 + h.report(1, 3), 412);
        Check.noThing("19: place 3", () -> g.report(3, 0));
    }

    private static void promise20Ended() {
        GossipCounts g = quick(3);
        Check.noThing("20: none", () -> g.ended(0));
        g.slander(2, -1);
        g.slander(0, -1);
        is("20: first", g.ended(0), 2);
        is("20: second", g.ended(1), 0);
        Check.noThing("20: third", () -> g.ended(2));
        Check.noThing("20: -1", () -> g.ended(-1));
        g.undo();
        Check.noThing("20: undone", () -> g.ended(1));
    }

    private static void promise21Count() {
        GossipCounts g = quick(6);
        g.put(0, 0, 0);
        g.take(0, 1);
        g.put(1, 0, 2);
        g.take(1, 2);
        g.slander(3, -1);
        g.suspect(0);
        g.trial();
        g.slander(2, -1);
        g.set(1, 5);
        g.slander(4, 1);
        g.pass(2);
        g.slander(5, 1);
        // 3 ended by slander, 0 in a trial; 2 has the count 1 and the truth 2; 5 has 1 and 0; 4 awaits one.
        int[] due = {2, 6, 4, 2, 1, 1, 8, 2, 1, 0, 0, 3, 3, 6};
        for (int what = 0; what <= 13; what++) {
            is("21: " + what, g.count(what), due[what]);
        }
        Check.badArgument("21: 14", () -> g.count(14));
        Check.badArgument("21: -1", () -> g.count(-1));
        GossipCounts h = quick(1);
        h.take(0, 0);
        h.slander(0, -1);
        is("21: wronged", h.count(9), 1);
        is("21: nothing is held", h.count(11), 0);
        is("21: what ended is not wrong", h.count(12), 0);
    }

    private static void promise22Setting() {
        GossipCounts g = new GossipCounts();
        g.set(4, 50);
        g.set(1, 20);
        is("22: 4", g.setting(4), 50);
        is("22: 1", g.setting(1), 20);
        Check.noThing("22: 5", () -> g.setting(5));
        Check.noThing("22: -1", () -> g.setting(-1));
    }

    private static void promise23IfPassed() {
        GossipCounts g = new GossipCounts();
        for (int n = 0; n < 3; n++) {
            g.add(0);
        }
        g.take(0, 0);
        g.put(0, 0, 1);
        g.take(1, 2);
        g.pass(5);
        g.take(0, NONE);
        g.slander(2, -1);
        g.slander(2, -1);
        is("23: ends in 1", g.ifPassed(1, 0), 1);
        is("23: ends in 2", g.ifPassed(2, 0), 2);
        is("23: ends in 4", g.ifPassed(4, 0), 3);
        is("23: wronged in 1", g.ifPassed(1, 1), 0);
        is("23: wronged in 2", g.ifPassed(2, 1), 1);
        is("23: reports after 1", g.ifPassed(1, 2), 3);
        is("23: reports after 4", g.ifPassed(4, 2), 0);
        is("23: not reached after 1", g.ifPassed(1, 3), 1);
        is("23: not reached after 100", g.ifPassed(100, 3), 0);
        is("23: nothing has happened", g.count(0) * 10 + g.count(7), 50);
        for (int ticks : new int[] {0, -1, 101}) {
            Check.badArgument("23: ticks " + ticks, () -> g.ifPassed(ticks, 0));
        }
        Check.badArgument("23: what", () -> g.ifPassed(1, 4));
        Check.badArgument("23: what", () -> g.ifPassed(1, -1));
        g.pass(2);
        is("23: only those to come", g.ifPassed(100, 0) * 10 + g.ifPassed(100, 1), 10);
    }

    private static void promise24EndsIn() {
        GossipCounts g = new GossipCounts();
        for (int n = 0; n < 4; n++) {
            g.add(0);
        }
        g.take(0, 0);
        g.put(0, 0, 1);
        g.put(1, 0, 2);
        g.pass(10);
        is("24: none", g.endsIn(0), NONE);
        g.take(0, NONE);
        is("24: its delay", g.endsIn(0), 1);
        is("24: and then 3", g.endsIn(1), 4);
        is("24: and then 2", g.endsIn(2), 6);
        is("24: never", g.endsIn(3), NONE);
        g.pass(4);
        is("24: has ended", g.endsIn(1), 0);
        is("24: what is left", g.endsIn(2), 2);
        Check.noThing("24: 4", () -> g.endsIn(4));
        Check.noThing("24: -1", () -> g.endsIn(-1));
        GossipCounts h = quick(1);
        h.put(0, 0, 0);
        h.pass(1);
        h.set(4, 50);
        h.suspect(0);
        is("24: at the trial", h.endsIn(0), 49);
        GossipCounts edge = quick(24);
        // A chain of delays 20 that ends link by link, at 20, 40, .. 200, 220.
        for (int n = 0; n < 23; n++) {
            edge.put(n, 0, n + 1);
        }
        delays(edge, 20);
        edge.slander(0, -1);
        is("24: 200 ticks", edge.endsIn(9), 200);
        is("24: 220 are too many", edge.endsIn(10), NONE);
        is("24: the first", edge.endsIn(0), 20);
        for (int n = 0; n < 50; n++) {
            h.pass(100 - (n == 0 ? 1 : 0));
        }
        is("24: beyond 5000", h.count(0) * 10 + h.thing(0, 0), 50000);
        // The same with a last link of one tick more: 10 times 20, then 1.
        GossipCounts past = quick(15);
        int[] chain = {0, 1, 3, 4, 6, 7, 9, 10, 12, 13, 14};
        for (int n = 0; n < 10; n++) {
            past.put(chain[n], 0, chain[n + 1]);
        }
        delays(past, 20);
        past.set(2, 1);
        past.slander(0, -1);
        is("24: 200 ticks", past.endsIn(13), 200);
        is("24: 201 are too many", past.endsIn(14), NONE);
        is("24: until a tick has passed", past.pass(1) * 1000 + past.endsIn(14), 200);
        int fresh = h.add(0);
        h.suspect(fresh);
        is("24: the limit does not matter", h.endsIn(fresh), 50);
    }

    private static void promise25IfTried() {
        GossipCounts g = quick(3);
        g.put(0, 0, 0);
        g.take(0, 0);
        g.slander(0, -1);
        g.put(0, 1, 1);
        g.take(1, 2);
        g.take(2, 2);
        g.take(2, NONE);
        is("25: two suspects", g.count(4), 2);
        is("25: ends", g.ifTried(0), 2);
        is("25: suspects", g.ifTried(1), 0);
        is("25: wronged", g.ifTried(2), 1);
        is("25: nothing has happened", g.count(7) * 10 + g.count(4), 2);
        is("25: as trial tells", g.trial(), 2);
        is("25: none are left", g.ifTried(0) + g.ifTried(1) + g.ifTried(2), 0);
        g.set(2, 3);
        g.suspect(2);
        g.slander(2, 1);
        is("25: stays a suspect", g.ifTried(1), 1);
        // 1 ends ahead of 0 by its rank: so 4 is heard of first, lets 3 go, and only 4 is wronged, not 3.
        GossipCounts h = quick(0);
        for (int rank : new int[] {1, 5, 0, 0, 0}) {
            h.add(rank);
        }
        h.put(0, 0, 1);
        h.put(0, 1, 2);
        h.put(0, 2, 3);
        h.put(1, 0, 4);
        h.put(2, 0, 4);
        h.put(4, 0, 3);
        h.take(0, 2);
        h.slander(4, -1);
        h.slander(3, -1);
        h.suspect(0);
        is("25: two in the trial, two by counts", h.ifTried(0), 4);
        is("25: the order of ends matters", h.ifTried(2), 1);
        is("25: 2 becomes a suspect", h.ifTried(1), 1);
        h.trial();
        is("25: the order", h.ended(0) * 1000 + h.ended(1) * 100 + h.ended(2) * 10 + h.ended(3), 1043);
        is("25: wronged", h.thing(4, 12) * 10 + h.thing(3, 12), 10);
        Check.badArgument("25: 3", () -> g.ifTried(3));
        Check.badArgument("25: -1", () -> g.ifTried(-1));
    }

    private static void promise26Ring() {
        GossipCounts g = quick(6);
        g.put(0, 0, 1);
        g.put(1, 0, 2);
        g.put(2, 0, 0);
        g.put(2, 1, 3);
        g.put(3, 1, 4);
        g.put(4, 2, 4);
        g.put(5, 0, 0);
        is("26: 0", g.ring(0), 7);
        is("26: 1", g.ring(1), 7);
        is("26: no ring", g.ring(3), 0);
        is("26: itself", g.ring(4), 16);
        is("26: reaches a ring", g.ring(5), 0);
        g.put(4, 0, 3);
        is("26: now it has one", g.ring(3), 24);
        g.suspect(5);
        g.slander(0, -1);
        g.slander(0, -1);
        is("26: ended", g.thing(0, 0) + g.ring(0), 0);
        Check.noThing("26: 6", () -> g.ring(6));
        Check.noThing("26: -1", () -> g.ring(-1));
    }

    private static void promise27BestCut() {
        GossipCounts g = quick(6);
        is("27: nothing", g.bestCut(0), NONE);
        is("27: nothing", g.bestCut(1), 0);
        g.put(0, 0, 1);
        is("27: not reached, nothing to let go", g.bestCut(0), NONE);
        g.take(3, 0);
        is("27: the hand", g.bestCut(0), 3);
        is("27: both", g.bestCut(1), 2);
        g.take(1, 0);
        is("27: two hands, so the slot", g.bestCut(0), 4);
        is("27: one", g.bestCut(1), 1);
        g.put(1, 2, 2);
        g.put(2, 3, 3);
        is("27: still the slot", g.bestCut(0) * 10 + g.bestCut(1), 43);
        g.take(0, 1);
        is("27: the slot of 1", g.bestCut(0), 4 + 4 + 2);
        is("27: 2 and 3", g.bestCut(1), 2);
        g.take(2, 2);
        is("27: the slot of 2", g.bestCut(0) * 10 + g.bestCut(1), (4 + 8 + 3) * 10 + 1);
        g.put(0, 3, 4);
        is("27: of several the lowest", g.bestCut(0), 4 + 3);
        is("27: one each", g.bestCut(1), 1);
        Check.badArgument("27: 2", () -> g.bestCut(2));
        Check.badArgument("27: -1", () -> g.bestCut(-1));
        is("27: all is held as before", g.hand(2) * 100 + g.slot(0, 3) * 10 + g.slot(2, 3), 243);
    }

    private static void promise28Bears() {
        GossipCounts g = quick(4);
        is("28: never held", g.bears(0), 1);
        g.take(0, 1);
        is("28: one", g.bears(1), 1);
        g.take(1, 1);
        is("28: two", g.bears(1), 2);
        g.set(1, 20);
        is("28: two, later", g.bears(1), 2);
        is("28: nothing is made", g.count(5), 0);
        g.set(3, 1);
        is("28: with proofs none", g.bears(1), NONE);
        is("28: with proofs, but no truth", g.bears(0), 1);
        g.set(3, 0);
        g.slander(1, -1);
        g.slander(1, -1);
        is("28: would end by itself", g.bears(1), 0);
        g.slander(2, -1);
        is("28: has ended", g.thing(2, 0) + g.bears(2), 0);
        Check.noThing("28: 4", () -> g.bears(4));
        Check.noThing("28: -1", () -> g.bears(-1));
        GossipCounts h = quick(5);
        for (int hand = 0; hand < 4; hand++) {
            h.take(hand, 0);
        }
        for (int n = 1; n <= 2; n++) {
            for (int slot = 0; slot < 4; slot++) {
                h.put(n, slot, 0);
            }
        }
        is("28: twelve", h.bears(0), 12);
        h.put(3, 0, 0);
        is("28: none up to 12", h.bears(0), NONE);
        GossipCounts k = quick(1);
        k.put(0, 0, 0);
        k.set(4, 31);
        k.suspect(0);
        is("28: its trial comes behind 30 ticks", k.bears(0), 1);
        k.set(4, 30);
        is("28: its trial comes at 30 ticks", k.bears(0), 0);
    }

    private static void promise29ReachedShare() {
        GossipCounts g = quick(3);
        is("29: none", g.reachedShare(), 0.0);
        g.take(0, 0);
        is("29: a third", g.reachedShare(), 1.0 / 3.0);
        g.put(0, 1, 1);
        is("29: two thirds", g.reachedShare(), 2.0 / 3.0);
        g.slander(2, -1);
        is("29: all that live", g.reachedShare(), 1.0);
        is("29: nothing", new GossipCounts().reachedShare(), 0.0);
    }

    private static void promise30Digest() {
        long[] empty = {0, 0, 0, 0, 0, 0, 0, 0, 0, 0, 0, 0, 0, 0, 1, 3, 2, 0, 0, -1, -1, -1, -1,
            0, 0, 0, 0, 0, 0, 0, -1, 0, 0, 0};
        is("30: a new object", new GossipCounts().digest(), hashed(empty));
        GossipCounts g = new GossipCounts();
        g.append('j');
        g.append('!');
        long[] withText = java.util.Arrays.copyOf(empty, empty.length + 2);
        withText[empty.length - 1] = 2;
        withText[empty.length] = 'j';
        withText[empty.length + 1] = '!';
        is("30: with a text", g.digest(), hashed(withText));
        GossipCounts h = new GossipCounts();
        h.add(4);
        h.take(0, 0);
        h.pass(1);
        long[] one = {1, 1, 1, 1, 0, 0, 1, 0, 0, 0, 0, 1, 0, 3, 1, 3, 2, 0, 0, 0, -1, -1, -1,
            1, 4, 1, 1, 0, 0, 0, 1, 0, -1, -1, 0, 0, -1, -1, -1, -1, 0, -1,
            0, 0, 0, 0, 0, 0, 0, 0, 1, 1, Double.doubleToLongBits(1.0), 0};
        is("30: one thing", h.digest(), hashed(one));
        h.slander(0, -1);
        long[] slandered = {1, 1, 1, 1, 0, 1, 2, 0, 0, 0, 0, 1, 1, 4, 1, 3, 2, 0, 0, 0, -1, -1, -1,
            1, 4, 1, 1, 1, -1, 0, 1, 0, -1, -1, 0, 0, -1, -1, -1, -1, 0, 1,
            1, 0, -1, 2, 1, 1, 1, 0, 0, 0, 0, 0, 0, 1, 0, Double.doubleToLongBits(1.0), 0};
        is("30: a report under way", h.digest(), hashed(slandered));
        h.pass(1);
        long[] ended = {2, 1, 0, 0, 0, 0, 2, 1, 0, 1, 0, 0, 0, 5, 1, 3, 2, 0, 0, -1, -1, -1, -1,
            0, 4, 0, 0, 0, 0, 0, 0, 0, 0, 2, 1, 1, -1, -1, -1, -1, 0, 0,
            0, 0, 0, 0, 0, 0, 0, 0, -1, 0, 0, 0, 0};
        is("30: an end", h.digest(), hashed(ended));
        everyShare();
        GossipCounts many = busy();
        many.clearBuffer();
        is("30: as the other calls tell", many.digest(), digestOf(many));
        GossipCounts edge = quick(3);
        edge.put(0, 0, 2);
        edge.put(2, 0, 1);
        edge.set(2, 20);
        edge.set(1, 1);
        edge.slander(0, -1);
        is("30: 2 ends in 20 ticks, 1 in 21", edge.endsIn(2) * 100 + edge.endsIn(1), 2021);
        is("30: of which the digest sees 20", edge.digest(), digestOf(edge));
    }

    private static long hashed(long[] values) {
        long hash = 2389;
        for (long v : values) {
            hash = 31 * hash + v;
        }
        return hash;
    }

    /** The bits of every share that there can be, told from the digest by what else it holds. */
    private static void everyShare() {
        for (int living = 1; living <= 24; living++) {
            GossipCounts g = new GossipCounts();
            for (int n = 0; n < living; n++) {
                g.add(0);
            }
            for (int reached = 0; reached <= living; reached++) {
                is("29: share", g.reachedShare(), (double) reached / living);
                is("30: bits of " + reached + " of " + living, g.digest(), digestOf(g));
                if (reached == 0) {
                    g.take(0, 0);
                } else if (reached < living) {
                    g.put(reached - 1, 0, reached);
                }
            }
        }
    }

    /** For an empty buffer, from the other calls of the face. */
    private static long digestOf(GossipCounts g) {
        long hash = 2389;
        for (int what = 0; what <= 13; what++) {
            hash = 31 * hash + g.count(what);
        }
        for (int s = 0; s <= 4; s++) {
            hash = 31 * hash + g.setting(s);
        }
        for (int hand = 0; hand <= 3; hand++) {
            hash = 31 * hash + g.hand(hand);
        }
        for (int thing = 0; thing < g.count(1); thing++) {
            for (int what = 0; what <= 12; what++) {
                hash = 31 * hash + g.thing(thing, what);
            }
            for (int slot = 0; slot <= 3; slot++) {
                hash = 31 * hash + g.slot(thing, slot);
            }
            hash = 31 * hash + g.ring(thing);
            hash = 31 * hash + g.endsIn(thing);
        }
        for (int place = 0; place < g.count(5); place++) {
            for (int what = 0; what <= 4; what++) {
                hash = 31 * hash + g.report(place, what);
            }
        }
        for (int end = 0; end < g.count(7); end++) {
            hash = 31 * hash + g.ended(end);
        }
        for (int what = 0; what <= 3; what++) {
            hash = 31 * hash + g.ifPassed(20, what);
        }
        for (int what = 0; what <= 2; what++) {
            hash = 31 * hash + g.ifTried(what);
        }
        hash = 31 * hash + g.bestCut(0);
        hash = 31 * hash + g.bestCut(1);
        if (g.count(1) > 0) {
            hash = 31 * hash + g.bears(0);
        }
        hash = 31 * hash + Double.doubleToLongBits(g.reachedShare());
        return 31 * hash;
    }

    // ---- terms

    private static void termsEndsByCounts() {
        GossipCounts g = quick(2);
        g.set(0, 3);
        g.take(0, 0);
        g.take(0, NONE);
        is("ends: not at once", g.thing(0, 0), 1);
        is("ends: behind 3 ticks", g.pass(2) * 10 + g.pass(1), 1);
        // A count of at most 0 with a report under way is neither an end nor a suspect.
        GossipCounts h = quick(1);
        h.set(0, 5);
        h.slander(0, 1);
        h.set(0, 1);
        h.slander(0, -1);
        h.pass(1);
        is("ends: a report is under way", h.thing(0, 0) * 10 + h.thing(0, 6), 10);
        h.pass(100);
        is("ends: +1 ends nothing, with the count 0", h.thing(0, 0) * 10 + h.thing(0, 2), 10);
        // Both gone at once: the earlier -1 leaves one under way that is due, too.
        GossipCounts k = new GossipCounts();
        k.add(0);
        k.slander(0, -1);
        k.slander(0, -1);
        is("ends: by the second one", k.pass(1), 1);
        is("ends: with -2", k.thing(0, 2), -2);
        // A thing that holds itself makes no report for itself.
        GossipCounts s = quick(1);
        s.put(0, 0, 0);
        s.put(0, 1, 0);
        s.slander(0, -1);
        s.slander(0, -1);
        is("ends: no report for itself", s.count(6), 4);
        is("ends: not wronged by itself", s.thing(0, 12) * 10 + s.count(9), 0);
        // Slots become empty in their order.
        GossipCounts o = quick(4);
        o.put(0, 0, 3);
        o.put(0, 1, 1);
        o.put(0, 3, 2);
        o.slander(0, -1);
        is("ends: slot by slot", o.ended(1) * 100 + o.ended(2) * 10 + o.ended(3), 312);
    }

    private static void termsOrderOfHearing() {
        // Due at once in their turn: 0 holds 1 and 2, 1 holds 3: 3 is heard behind 2.
        GossipCounts g = quick(4);
        g.put(0, 0, 1);
        g.put(0, 1, 2);
        g.put(1, 0, 3);
        g.slander(0, -1);
        is("order: 0 1 2 3", g.ended(0) * 1000 + g.ended(1) * 100 + g.ended(2) * 10 + g.ended(3), 123);
        // With the delay 1 of gossip 0 the 3 is heard one tick later.
        GossipCounts h = quick(4);
        h.put(0, 0, 3);
        h.put(0, 1, 1);
        h.slander(0, 1);
        h.set(0, 1);
        h.slander(0, -1);
        h.slander(0, -1);
        h.pass(1);
        is("order: 1 is heard at once", h.ended(1), 1);
        is("order: 3 is not", h.count(7), 2);
        h.pass(1);
        is("order: 3 then", h.ended(2), 3);
        // In a tick reports are heard ahead of the trial.
        GossipCounts t = quick(1);
        t.put(0, 0, 0);
        t.set(0, 2);
        t.set(4, 2);
        t.slander(0, 1);
        t.suspect(0);
        is("order: the +1 is heard, then the trial", t.pass(2), 0);
        is("order: innocent", t.thing(0, 6) * 10 + t.thing(0, 2), 2);
    }

    private static void termsProofs() {
        GossipCounts g = quick(2);
        g.set(3, 1);
        g.take(0, 0);
        g.slander(0, -1);
        is("proofs: lives", g.thing(0, 0) * 10 + g.thing(0, 2), 11);
        is("proofs: slander was found", g.count(10), 1);
        is("proofs: no suspect by that", g.thing(0, 6), 0);
        g.slander(0, 1);
        g.slander(0, -1);
        is("proofs: above 0 it is a suspect", g.thing(0, 6), 1);
        g.slander(0, -1);
        is("proofs: found again", g.count(10), 2);
        is("proofs: what was a suspect stays one", g.thing(0, 6), 1);
        g.take(0, NONE);
        is("proofs: without truth it ends", g.thing(0, 11), 1);
        g.slander(1, -1);
        is("proofs: nothing held 1", g.thing(1, 11) * 10 + g.thing(1, 12), 10);
        GossipCounts h = quick(1);
        h.set(3, 1);
        h.put(0, 0, 0);
        h.slander(0, -1);
        is("proofs: its own slot is a truth, too", h.thing(0, 0) * 10 + h.count(10), 11);
    }

    private static void termsWronged() {
        GossipCounts g = quick(3);
        g.take(1, 0);
        g.put(1, 2, 0);
        g.put(0, 0, 2);
        g.slander(0, -1);
        int reports = g.count(6);
        g.slander(0, -1);
        is("wronged: ended by its count", g.thing(0, 11) * 10 + g.thing(0, 12), 11);
        is("wronged: hand and slot are empty", g.hand(1) + g.slot(1, 2), 2 * NONE);
        is("wronged: without reports, but one for what it held", g.count(6), reports + 2);
        is("wronged: what it held ended, not wronged", g.thing(2, 0) + g.thing(2, 12), 0);
        is("wronged: so far", g.count(9), 1);
        is("wronged: no suspect any more", g.count(4), 0);
        // A slot of a thing outside the set that is tried wrongs, too.
        GossipCounts h = quick(2);
        h.put(0, 0, 0);
        h.put(1, 0, 0);
        h.slander(0, -1);
        is("wronged: in a trial", h.trial(), 1);
        is("wronged: by a slot", h.thing(0, 12) * 10 + h.thing(0, 11), 12);
        is("wronged: the slot is empty", h.slot(1, 0), NONE);
    }

    private static GossipCounts busy() {
        GossipCounts g = new GossipCounts();
        for (int n = 0; n < 6; n++) {
            g.add(n);
        }
        g.take(0, 0);
        g.put(0, 0, 1);
        g.put(1, 3, 0);
        g.put(2, 0, 2);
        g.put(0, 2, 3);
        g.pass(2);
        g.slander(3, -1);
        g.suspect(2);
        g.slander(4, -1);
        g.append('j');
        g.set(4, 7);
        return g;
    }

    private static void looksChangeNothing() {
        GossipCounts g = busy();
        long before = g.digest();
        for (int thing = 0; thing < 6; thing++) {
            g.endsIn(thing);
            g.ring(thing);
            g.bears(thing);
            g.slot(thing, 0);
            g.thing(thing, 3);
        }
        for (int what = 0; what < 4; what++) {
            g.ifPassed(100, what);
        }
        for (int what = 0; what < 3; what++) {
            g.ifTried(what);
        }
        g.bestCut(0);
        g.bestCut(1);
        g.reachedShare();
        g.firstError();
        g.report(0, 1);
        is("looks change nothing", g.digest(), before);
        is("looks save nothing", g.count(13), busy().count(13));
    }

    private static void whatThrowsChangesNothing() {
        GossipCounts g = busy();
        long before = g.digest();
        Check.badArgument("add", () -> g.add(10));
        Check.noThing("take", () -> g.take(0, 6));
        Check.noThing("put", () -> g.put(0, 4, 0));
        Check.badArgument("slander", () -> g.slander(0, 3));
        Check.badState("suspect", () -> g.suspect(2));
        Check.badArgument("set", () -> g.set(0, 21));
        Check.badArgument("pass", () -> g.pass(101));
        Check.badArgument("append", () -> g.append(200));
        g.append(';');
        Check.badArgument("run", g::run);
        is("the buffer is kept", g.clearBuffer(), 2);
        g.append('j');
        is("what throws changes nothing", g.digest(), before);
    }
}
