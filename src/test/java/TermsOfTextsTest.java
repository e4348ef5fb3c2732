import java.util.LinkedHashMap;
import java.util.Map;

/** Terms: input text, undo and exceptions; each sentence on both sides of its boundaries. */
public final class TermsOfTextsTest {
    private static final int NONE = Boundary.NONE;
    private static final String DIGITS = "0123456789";

    public static void main(String[] args) {
        Boundary.runAll(TermsOfTextsTest.class);
    }

    // ---- input text

    /** Behind this beginning of a program just these characters may stand, of all that a buffer takes. */
    private static void follow(String begin, String allowed) {
        for (int code = 33; code <= 126; code++) {
            GossipCounts g = Boundary.typed(new GossipCounts(), begin + (char) code);
            boolean may = allowed.indexOf(code) >= 0;
            Boundary.is(begin + (char) code, g.firstError(), begin.length() + (may ? 1 : 0));
        }
    }

    /** These are programs: they have no error, and run. */
    private static void programs(String... texts) {
        for (String text : texts) {
            GossipCounts g = Boundary.typed(Boundary.slow(23), text);
            Boundary.is(text + " has no error", g.firstError(), text.length());
            Boundary.is(text + " is done", Check.outcome(g::run), text.split(";").length);
        }
    }

    /** These are only the beginnings of programs: they have no error, but do not run. */
    private static void beginnings(String... texts) {
        for (String text : texts) {
            Boundary.allows(text + " has no error", text.length(), () -> Boundary.typed(Boundary.busy(), text),
                    GossipCounts::firstError);
            Boundary.refuses(text + " does not run", Boundary.ARGUMENT, () -> Boundary.typed(Boundary.busy(), text),
                    GossipCounts::run);
        }
    }

    @Boundary.Holds(in = "Input text", says = "The buffer has at most 60 characters.")
    static void termTextAtMost60Characters() {
        GossipCounts g = new GossipCounts();
        for (int n = 1; n <= 60; n++) {
            Boundary.is("character " + n, g.append('~'), n);
        }
        Boundary.refuses("a 61st", Boundary.STATE,
                () -> Boundary.typed(Boundary.busy(), "j;".repeat(29) + "n1"), x -> x.append(';'));
        Boundary.allows("60 are a program", 30, () -> Boundary.typed(Boundary.busy(), "j;".repeat(29) + "t1"),
                GossipCounts::run);
    }

    @Boundary.Holds(in = "Input text", says = "A program is one or more steps with \";\" between them:")
    static void termTextOneOrMoreSteps() {
        programs("j", "j;j", "j;j;j", "n1;h0=0;s0.0=0;t1;j");
        beginnings("", "j;", "j;j;");
        follow("", "nhstj");
        follow("j", ";");
        follow("j;", "nhstj");
        follow("j;j", ";");
        follow("j;j;", "nhstj");
    }

    @Boundary.Holds(in = "Input text", says = "\"n\" and a digit, the rank of a new thing;")
    static void termTextNewThing() {
        for (int rank = 0; rank <= 9; rank++) {
            GossipCounts g = Boundary.typed(new GossipCounts(), "n" + rank);
            Boundary.is("n" + rank, g.run() * 10 + g.thing(0, 1), 10 + rank);
        }
        beginnings("n", "n1;", "n1;n");
        follow("n", DIGITS);
        follow("n0", ";");
        follow("n9", ";");
        follow("n9;", "nhstj");
    }

    @Boundary.Holds(in = "Input text", says = "\"h\", the digit of a hand, 0 to 3, \"=\", and a thing, 0 to 23, or "
            + "\"-\" (the hand takes it, or nothing);")
    static void termTextHand() {
        for (int hand = 0; hand <= 3; hand++) {
            GossipCounts g = Boundary.typed(Boundary.slow(24), "h" + hand + "=" + 5 * hand);
            Boundary.is("the hand takes it", g.run() * 100 + g.hand(hand), 100 + 5 * hand);
            Boundary.type(g, "h" + hand + "=-");
            Boundary.is("the hand takes nothing", g.run() * 100 + g.hand(hand), 99);
        }
        beginnings("h", "h0", "h3=", "h3=-;");
        follow("h", "0123");
        follow("h0", "=");
        follow("h3", "=");
        follow("h0=", DIGITS + "-");
        follow("h0=-", ";");
    }

    @Boundary.Holds(in = "Input text", says = {"and a thing, 0 to 23, or \"-\"", "Numbers are without leading zeros."})
    static void termTextThings0To23() {
        for (int thing = 0; thing <= 23; thing++) {
            GossipCounts g = Boundary.typed(Boundary.slow(24), "h0=" + thing + ";s" + thing + ".3=" + thing);
            Boundary.is("both steps with " + thing, g.run(), 2);
            Boundary.is("held: " + thing, g.hand(0) * 100 + g.slot(thing, 3), thing * 101);
        }
        for (String begin : new String[] {"h0=", "s4.1="}) {
            for (int first = 0; first <= 9; first++) {
                follow(begin + first, (first == 1 ? DIGITS : first == 2 ? "0123" : "") + ";");
            }
            for (int whole : new int[] {10, 19, 20, 23}) {
                follow(begin + whole, ";");
            }
        }
        for (int first = 0; first <= 9; first++) {
            follow("s" + first, (first == 1 ? DIGITS : first == 2 ? "0123" : "") + ".");
        }
        for (int whole : new int[] {10, 19, 20, 23}) {
            follow("s" + whole, ".");
        }
    }

    @Boundary.Holds(in = "Input text", says = "\"s\", a thing, \".\", the digit of a slot, 0 to 3, \"=\", and a thing "
            + "or \"-\";")
    static void termTextSlot() {
        for (int slot = 0; slot <= 3; slot++) {
            GossipCounts g = Boundary.typed(Boundary.slow(24), "s23." + slot + "=10");
            Boundary.is("the slot takes it", g.run() * 100 + g.slot(23, slot), 110);
            Boundary.type(g, "s23." + slot + "=-");
            Boundary.is("the slot takes nothing", g.run() * 100 + g.slot(23, slot), 99);
        }
        beginnings("s", "s0", "s1", "s23", "s0.", "s0.0", "s0.0=", "s0.0=1;");
        follow("s", DIGITS);
        follow("s0.", "0123");
        follow("s23.", "0123");
        follow("s0.0", "=");
        follow("s0.3", "=");
        follow("s0.0=", DIGITS + "-");
        follow("s0.0=-", ";");
    }

    @Boundary.Holds(in = "Input text", says = "\"t\" and a number of ticks, 1 to 99; \"j\" (a trial).")
    static void termTextTicks1To99AndATrial() {
        for (int ticks = 1; ticks <= 99; ticks++) {
            GossipCounts g = Boundary.typed(new GossipCounts(), "t" + ticks);
            Boundary.is("t" + ticks, g.run() * 100 + g.count(0), 100 + ticks);
        }
        beginnings("t", "t1;", "t99;");
        follow("t", "123456789");
        for (int first = 1; first <= 9; first++) {
            follow("t" + first, DIGITS + ";");
            follow("t" + first + "0", ";");
            follow("t" + first + "9", ";");
        }
        GossipCounts trial = Boundary.quick(1);
        trial.suspect(0);
        Boundary.type(trial, "j");
        Boundary.is("a trial", trial.run() * 10 + trial.thing(0, 11), 12);
    }

    @Boundary.Holds(in = "Input text", says = "The buffer is read from left to right; a character is a syntax error "
            + "if no program, of any length, begins with the characters before it and this character.")
    static void termTextFirstErrorFromTheLeft() {
        Map<String, Integer> errors = new LinkedHashMap<>();
        errors.put("", 0);
        errors.put("x", 0);
        errors.put("xj;j", 0);
        errors.put("jx;x", 1);
        errors.put("j;n1;h4=1;n", 6);
        errors.put("j;n1;h3=1;n", 11);
        errors.put("h0=24;x", 4);
        errors.put("h0=01", 4);
        errors.put("s05.0=1", 2);
        errors.put("t05", 1);
        errors.put("t100", 3);
        errors.put(";j", 0);
        errors.put("j;;j", 2);
        errors.forEach((text, error) -> Boundary.allows(text, error,
                () -> Boundary.typed(new GossipCounts(), text), GossipCounts::firstError));
        // A full buffer may be the beginning of a program that is longer than any buffer.
        for (String end : new String[] {"n", "s", "h"}) {
            Boundary.allows("59 and " + end, 60,
                    () -> Boundary.typed(new GossipCounts(), "j;".repeat(28) + "n1;" + end), GossipCounts::firstError);
        }
        Boundary.allows("59 and an error", 59,
                () -> Boundary.typed(new GossipCounts(), "j;".repeat(28) + "n1;x"), GossipCounts::firstError);
    }

    // ---- undo

    @Boundary.Holds(in = "Undo", says = "Each method that is marked \"undoable\" and does not throw an exception saves "
            + "the state from before it (also if it changes nothing): all but the buffer and the saved states.")
    static void termUndoEachUndoableMethod() {
        Map<String, Boundary.Asked> calls = new LinkedHashMap<>();
        calls.put("add", x -> x.add(5));
        calls.put("take", x -> x.take(1, 4));
        calls.put("take nothing", x -> x.take(0, NONE));
        calls.put("put", x -> x.put(4, 2, 3));
        calls.put("put nothing", x -> x.put(0, 0, NONE));
        calls.put("slander", x -> x.slander(4, -1));
        calls.put("suspect", x -> x.suspect(2));
        calls.put("set", x -> x.set(2, 17));
        calls.put("set proofs", x -> x.set(3, 1));
        calls.put("pass", x -> x.pass(9));
        calls.put("trial", GossipCounts::trial);
        calls.put("audit", GossipCounts::audit);
        calls.forEach((name, call) -> Boundary.undoable(name, Boundary::roomy, call));
        Boundary.undoable("pass, where all happens", () -> lessStates(Boundary.eventful()), x -> x.pass(5));
        Boundary.undoable("pass, where all happens", () -> lessStates(Boundary.eventful()), x -> x.pass(100));
        Boundary.undoable("trial, where all happens", () -> lessStates(Boundary.eventful()), GossipCounts::trial);
    }

    @Boundary.Holds(in = "Undo", says = "saves the state from before it (also if it changes nothing): all but the "
            + "buffer and the saved states")
    static void termUndoAllOfAnyThing() {
        for (int thing = 0; thing < 24; thing++) {
            int t = thing;
            Boundary.Made made = () -> all24(t);
            Boundary.undoable("a report is made for " + t, made, x -> x.slander(t, 1));
            Boundary.undoable("one is heard for " + t, made, x -> x.pass(2));
            Boundary.undoable(t + " is a suspect", made, x -> x.suspect(t));
            Boundary.undoable(t + " is held", made, x -> x.put(t, t % 4, t));
            Boundary.undoable(t + " is held by a hand", made, x -> x.take(t % 4, t));
            Boundary.undoable("slander for " + t + " is found", made, x -> Boundary.typed(x, "t99").run());
            Boundary.undoable(t + " ends in a trial, wronged", () -> guilty24(t), GossipCounts::trial);
        }
        Boundary.is("ended and wronged", endedIn(guilty24(5)), 211);
        Boundary.is("slander is found", all24(5).pass(99) * 10 + foundIn(all24(5), 99), 11);
    }

    private static int foundIn(GossipCounts g, int ticks) {
        g.pass(ticks);
        return g.count(10);
    }

    private static int endedIn(GossipCounts g) {
        g.trial();
        return g.thing(5, 11) * 100 + g.thing(5, 12) * 10 + g.count(9);
    }

    /** 24 things, three saved states; the thing has no rest, but a hand holds it. */
    private static GossipCounts guilty24(int thing) {
        GossipCounts g = Boundary.quick(24);
        g.take(1, thing);
        g.put(thing, 0, thing);
        g.put(thing, 3, thing);
        g.slander(thing, -1);
        return lessStates(g);
    }

    private static GossipCounts lessStates(GossipCounts g) {
        for (int n = 0; n < 3; n++) {
            g.set(4, n);
        }
        for (int n = 0; n < 3; n++) {
            g.undo();
        }
        return g;
    }

    /**
     * 24 things, three saved states; three reports for the thing are under way, by the first of which its count
     * changes, and behind the last slander is found; the next one, which nothing holds any more, ends in 9 ticks.
     */
    private static GossipCounts all24(int thing) {
        GossipCounts g = Boundary.quick(24);
        int next = (thing + 1) % 24;
        g.take(0, thing);
        g.put((thing + 2) % 24, 1, next);
        g.set(3, 1);
        g.set(thing % 3, 2);
        g.slander(thing, 1);
        g.set(thing % 3, 3);
        g.slander(thing, -1);
        g.slander(thing, -1);
        g.set(next % 3, 9);
        g.put((thing + 2) % 24, 1, NONE);
        g.set(thing % 3, 1);
        return lessStates(g);
    }

    @Boundary.Holds(in = "Undo", says = "(also if it changes nothing)")
    static void termUndoAlsoIfNothingChanges() {
        Boundary.undoable("nothing for nothing", Boundary::roomy, x -> x.take(2, NONE));
        Boundary.undoable("nothing for nothing", Boundary::roomy, x -> x.put(4, 1, NONE));
        Boundary.undoable("the same value", Boundary::roomy, x -> x.set(2, 2));
        Boundary.undoable("a trial without suspects", () -> Boundary.slow(3), GossipCounts::trial);
        Boundary.undoable("an audit of right counts", () -> Boundary.slow(3), GossipCounts::audit);
        Boundary.undoable("a tick of an empty world", GossipCounts::new, x -> x.pass(1));
    }

    @Boundary.Holds(in = "Undo", says = "and does not throw an exception saves the state from before it")
    static void termUndoNothingIsSavedByOthers() {
        Map<String, Boundary.Asked> calls = new LinkedHashMap<>();
        calls.put("append", x -> x.append('j'));
        calls.put("clearBuffer", GossipCounts::clearBuffer);
        calls.put("firstError", GossipCounts::firstError);
        calls.put("run that throws", GossipCounts::run);
        calls.put("add that throws", x -> x.add(10));
        calls.put("take that throws", x -> x.take(4, 0));
        calls.put("put that throws", x -> x.put(0, 0, 1));
        calls.put("slander that throws", x -> x.slander(0, 0));
        calls.put("suspect that throws", x -> x.suspect(1));
        calls.put("set that throws", x -> x.set(4, 51));
        calls.put("pass that throws", x -> x.pass(101));
        calls.forEach((name, call) -> {
            GossipCounts g = Boundary.roomy();
            Check.outcome(() -> call.of(g));
            Boundary.is(name, g.count(13), 3);
        });
    }

    @Boundary.Holds(in = "Undo", says = "all but the buffer and the saved states")
    static void termUndoLeavesTheBuffer() {
        GossipCounts g = Boundary.slow(1);
        Boundary.type(g, "n1");
        g.add(3);
        Boundary.type(g, "h0=");
        g.undo();
        Boundary.is("typed since then", g.clearBuffer(), 3);
        Boundary.type(g, "n7");
        g.run();
        g.undo();
        Boundary.is("empty as run left it", g.clearBuffer() * 10 + g.count(1), 1);
    }

    @Boundary.Holds(in = "Undo", says = "At most 6 states are saved; the oldest one is dropped first.")
    static void termUndoAtMost6States() {
        for (int calls = 0; calls <= 9; calls++) {
            GossipCounts g = new GossipCounts();
            for (int n = 0; n < calls; n++) {
                g.pass(1 + n);
                Boundary.is("saved behind call " + (n + 1), g.count(13), Math.min(n + 1, 6));
            }
            int time = calls * (calls + 1) / 2;
            int states = Math.min(calls, 6);
            for (int n = 1; n <= states; n++) {
                time -= calls + 1 - n;
                Boundary.is("left behind undo " + n, g.undo(), states - n);
                Boundary.is("the state before call " + (calls + 1 - n), g.count(0), time);
            }
            Boundary.is("then none is left", Check.outcome(g::undo), Boundary.STATE);
            Boundary.is("and the time stays", g.count(0), time);
        }
    }

    // ---- exceptions

    @Boundary.Holds(in = "Exceptions", says = "A call that throws an exception changes nothing.")
    static void termExceptionsChangeNothing() {
        Boundary.refuses("add", Boundary.ARGUMENT, Boundary::busy, x -> x.add(10));
        Boundary.refuses("add", Boundary.STATE, TermsOfTextsTest::full, x -> x.add(9));
        Boundary.refuses("take", Boundary.INDEX, Boundary::busy, x -> x.take(0, 5));
        Boundary.refuses("take", Boundary.STATE, Boundary::busy, x -> x.take(0, 1));
        Boundary.refuses("put", Boundary.INDEX, Boundary::busy, x -> x.put(0, 0, 5));
        Boundary.refuses("put", Boundary.STATE, Boundary::busy, x -> x.put(0, 0, 1));
        Boundary.refuses("slander", Boundary.INDEX, Boundary::busy, x -> x.slander(5, 1));
        Boundary.refuses("slander", Boundary.ARGUMENT, Boundary::busy, x -> x.slander(0, 2));
        Boundary.refuses("slander", Boundary.STATE, Boundary::busy, x -> x.slander(1, 1));
        Boundary.refuses("suspect", Boundary.INDEX, Boundary::busy, x -> x.suspect(5));
        Boundary.refuses("suspect", Boundary.STATE, Boundary::busy, x -> x.suspect(3));
        Boundary.refuses("set", Boundary.INDEX, Boundary::busy, x -> x.set(5, 1));
        Boundary.refuses("set", Boundary.ARGUMENT, Boundary::busy, x -> x.set(1, 21));
        Boundary.refuses("pass", Boundary.ARGUMENT, Boundary::busy, x -> x.pass(0));
        Boundary.refuses("append", Boundary.ARGUMENT, Boundary::busy, x -> x.append(32));
        Boundary.refuses("run", Boundary.ARGUMENT, Boundary::busy, GossipCounts::run);
        Boundary.refuses("undo", Boundary.STATE, () -> Boundary.typed(new GossipCounts(), "n1"), GossipCounts::undo);
        Boundary.refuses("thing", Boundary.ARGUMENT, Boundary::busy, x -> x.thing(0, 13));
        Boundary.refuses("report", Boundary.INDEX, Boundary::busy, x -> x.report(2, 0));
        Boundary.refuses("ifPassed", Boundary.ARGUMENT, Boundary::busy, x -> x.ifPassed(100, 4));
        Boundary.refuses("endsIn", Boundary.INDEX, Boundary::busy, x -> x.endsIn(5));
        Boundary.refuses("ifTried", Boundary.ARGUMENT, Boundary::busy, x -> x.ifTried(3));
        Boundary.refuses("bears", Boundary.INDEX, Boundary::busy, x -> x.bears(5));
    }

    private static GossipCounts full() {
        return Boundary.slow(24);
    }

    @Boundary.Holds(in = "Exceptions", says = "If several exceptions apply, the one that is named first in the throws "
            + "clause is thrown.")
    static void termExceptionsTheFirstNamedIsThrown() {
        Boundary.refuses("add: rank, then 24 things", Boundary.ARGUMENT, TermsOfTextsTest::full, x -> x.add(10));
        Boundary.refuses("take: hand, then end", Boundary.INDEX, Boundary::busy, x -> x.take(4, 1));
        Boundary.refuses("put: slot, then ends", Boundary.INDEX, Boundary::busy, x -> x.put(1, 4, 1));
        Boundary.refuses("put: thing, then the other's end", Boundary.INDEX, Boundary::busy, x -> x.put(5, 0, 1));
        Boundary.refuses("put: other, then the thing's end", Boundary.INDEX, Boundary::busy, x -> x.put(1, 0, 5));
        Boundary.refuses("slander: thing, then by", Boundary.INDEX, Boundary::busy, x -> x.slander(5, 0));
        Boundary.refuses("slander: by, then end", Boundary.ARGUMENT, Boundary::busy, x -> x.slander(1, 0));
        Boundary.refuses("set: setting, then value", Boundary.INDEX, Boundary::busy, x -> x.set(5, -1));
        Boundary.refuses("pass: ticks, then time", Boundary.ARGUMENT, () -> Boundary.late(Boundary.busy(), 4999),
                x -> x.pass(101));
        Boundary.refuses("append: code, then length", Boundary.ARGUMENT,
                () -> Boundary.typed(Boundary.busy(), "j".repeat(60)), x -> x.append(127));
        Boundary.refuses("thing: thing, then what", Boundary.INDEX, Boundary::busy, x -> x.thing(5, 13));
        Boundary.refuses("report: place, then what", Boundary.INDEX, Boundary::busy, x -> x.report(2, 5));
    }
}
