/** Promises 11 to 15, sentence by sentence: the last that is allowed, the first that is not, and what is due. */
public final class Promises11To15Test {
    private static final int NONE = Boundary.NONE;

    public static void main(String[] args) {
        Boundary.runAll(Promises11To15Test.class);
    }

    private static GossipCounts with(String text) {
        return Boundary.typed(Boundary.busy(), text);
    }

    // ---- 11: append

    @Boundary.Holds(in = "Promise 11", says = {"Appends a character to the buffer.",
        "`code`: the character code, 33 to 126", "Throws `IllegalArgumentException` if code is not 33 to 126"})
    static void promise11Code33To126() {
        for (int code = 33; code <= 126; code++) {
            int c = code;
            Boundary.allows("code " + code, 1, GossipCounts::new, x -> x.append(c));
        }
        for (int wrong : new int[] {32, 127, 0, -1, 13, 10, 128, 160, 65536 + 'j', Integer.MIN_VALUE,
            Integer.MAX_VALUE}) {
            Boundary.refuses("code " + wrong, Boundary.ARGUMENT, Boundary::roomy, x -> x.append(wrong));
        }
        GossipCounts g = with("");
        g.append('n');
        g.append('4');
        Boundary.is("in their order", g.firstError() * 10 + g.run(), 21);
    }

    @Boundary.Holds(in = "Promise 11", says = {"Returns the new length of the buffer.",
        "Throws `IllegalStateException` if the buffer has 60 characters"})
    static void promise11Length1To60() {
        GossipCounts g = new GossipCounts();
        for (int length = 1; length <= 60; length++) {
            Boundary.is("the new length", g.append(33 + length), length);
        }
        Boundary.is("60", g.clearBuffer(), 60);
        Boundary.allows("the 60th", 60, () -> with("j".repeat(59)), x -> x.append('j'));
        Boundary.refuses("a 61st", Boundary.STATE, () -> with("j".repeat(60)), x -> x.append('j'));
        Boundary.refuses("a wrong code comes first", Boundary.ARGUMENT, () -> with("j".repeat(60)), x -> x.append(32));
        Boundary.allows("behind clearBuffer", 1, () -> with("j".repeat(60)), x -> {
            x.clearBuffer();
            return x.append('j');
        });
    }

    // ---- 12: clearBuffer

    @Boundary.Holds(in = "Promise 12", says = {"Clears the buffer.", "Returns the length that it had."})
    static void promise12Length0To60() {
        for (int length : new int[] {0, 1, 59, 60}) {
            GossipCounts g = with("!".repeat(length));
            Boundary.is("the length of " + length, g.clearBuffer(), length);
            Boundary.is("is empty then", g.clearBuffer(), 0);
            Boundary.is("and has no error", g.firstError(), 0);
        }
        GossipCounts g = with("n1;n2;n3");
        g.clearBuffer();
        Boundary.type(g, "j");
        Boundary.is("nothing is left of it", g.firstError() * 10 + g.run(), 11);
    }

    // ---- 13: firstError

    @Boundary.Holds(in = "Promise 13", says = {"Finds the first syntax error of the buffer.", "Returns the index of the "
            + "first character that is a syntax error; the length of the buffer if there is none."})
    static void promise13Index0To60() {
        String program = "n1;h0=0;s0.0=23;t99;j;h3=12;s23.3=-;n9;j;j;j;j;j;j;j;j;j;t12";
        Boundary.is("the program's length", program.length(), 60);
        for (int length = 0; length <= 60; length++) {
            String begin = program.substring(0, length);
            String end = program.substring(Math.min(length + 1, 60));
            Boundary.allows("no error in " + begin, length, () -> with(begin), GossipCounts::firstError);
            if (length < 60) {
                Boundary.allows("the last is one: " + begin + "!", length, () -> with(begin + "!"),
                        GossipCounts::firstError);
                Boundary.allows("not the last: " + begin + "!" + end, length, () -> with(begin + "!" + end),
                        GossipCounts::firstError);
            }
        }
        Boundary.changesNothing("firstError", () -> with("n1;x"), GossipCounts::firstError);
    }

    // ---- 14: run

    @Boundary.Holds(in = "Promise 14", says = {"Does the steps of the program in the buffer one by one, as add(), "
            + "take(), put(), pass() and trial() do,", "Returns how many steps are done."})
    static void promise14DoesAsTheMethodsDo() {
        GossipCounts text = Boundary.slow(2);
        GossipCounts calls = Boundary.slow(2);
        text.suspect(0);
        calls.suspect(0);
        Boundary.type(text, "n7;h3=1;s2.3=1;s0.0=0;t99;j;h3=-;s2.3=-;t1");
        Boundary.is("nine steps", text.run(), 9);
        calls.add(7);
        calls.take(3, 1);
        calls.put(2, 3, 1);
        calls.put(0, 0, 0);
        calls.pass(99);
        calls.trial();
        calls.take(3, NONE);
        calls.put(2, 3, NONE);
        calls.pass(1);
        Boundary.is("0 has ended in the trial, 1 not yet", Boundary.ends(text) + ", " + text.count(5), "0, 2");
        for (int n = 0; n < 6; n++) {
            text.set(4, n);
            calls.set(4, n);
        }
        Boundary.alike("text and calls", text, calls);
    }

    @Boundary.Holds(in = "Promise 14", says = "up to the first one whose method would throw an exception;")
    static void promise14UpToTheFirstThatThrows() {
        stops("a 25th thing", () -> Boundary.slow(24), "t1;n0;t1", 1);
        stops("the 24th", () -> Boundary.slow(23), "t1;n0;t1", 3);
        stops("a thing that is not there", () -> Boundary.slow(3), "h0=3;t1", 0);
        stops("the last that is there", () -> Boundary.slow(3), "h0=2;t1", 2);
        stops("a thing that comes by the step before", () -> Boundary.slow(3), "n1;h0=3;t1", 3);
        stops("a thing that ended", Boundary::busy, "t1;h0=1;t1", 1);
        stops("a thing that ends by the step before", () -> Boundary.quick(1), "h0=0;h0=-;h0=0;t1", 2);
        stops("an owner that is not there", () -> Boundary.slow(3), "t1;s3.0=-;t1", 1);
        stops("an owner that ended", Boundary::busy, "t1;s1.0=-;t1", 1);
        stops("an other that is not there", () -> Boundary.slow(3), "t1;s2.0=3;t1", 1);
        stops("an other that ended", Boundary::busy, "t1;s0.0=1;t1", 1);
        stops("an owner and an other that live", Boundary::busy, "t1;s4.3=4;t1", 3);
        stops("ticks up to 5000", () -> Boundary.late(Boundary.slow(1), 4900), "t99;t1;j", 3);
        stops("ticks beyond 5000", () -> Boundary.late(Boundary.slow(1), 4900), "t99;t2;j", 1);
        stops("a trial beyond is never refused", () -> Boundary.late(Boundary.slow(1), 5000), "j;j;t1;j", 2);
    }

    /** So many steps are done, and then as much is changed as by a program of just those steps. */
    private static void stops(String what, Boundary.Made made, String text, int steps) {
        GossipCounts g = Boundary.typed(made.object(), text);
        Boundary.is(what + ": steps of " + text, g.run(), steps);
        Boundary.is(what + ": the buffer is empty", g.clearBuffer(), 0);
        String done = "";
        String[] all = text.split(";");
        for (int n = 0; n < steps; n++) {
            done += (n == 0 ? "" : ";") + all[n];
        }
        GossipCounts same = Boundary.typed(made.object(), done.isEmpty() ? "h0=23" : done);
        same.run();
        Boundary.alike(what, g, same);
    }

    @Boundary.Holds(in = "Promise 14", says = "clears the buffer.")
    static void promise14ClearsTheBuffer() {
        Boundary.allows("done", 10, () -> with("j"), x -> x.run() * 10 + x.clearBuffer());
        Boundary.allows("stopped", 0, () -> with("h0=23;j"), x -> x.run() * 10 + x.clearBuffer());
        Boundary.refuses("run twice", Boundary.ARGUMENT, () -> {
            GossipCounts g = with("j");
            g.run();
            return g;
        }, GossipCounts::run);
    }

    @Boundary.Holds(in = "Promise 14", says = "Undoable, as one call, also if no step is done.")
    static void promise14UndoableAsOneCall() {
        for (String text : new String[] {"j", "h0=23", "n1;h0=2;s0.3=3;t20;j;h0=-;t9", "n1;n1;n1;n1;n1;n1;n1;n1",
            "n1;h0=23"}) {
            GossipCounts g = Boundary.typed(Boundary.roomy(), text);
            Boundary.is(text, g.run() >= 0 && g.count(13) == 4, true);
            Boundary.is(text + ", undone", g.undo(), 3);
            Boundary.alike(text + ", undone,", g, Boundary.typed(Boundary.roomy(), ""));
        }
    }

    @Boundary.Holds(in = "Promise 14", says = "Throws `IllegalArgumentException` if the buffer is not a complete program")
    static void promise14NotACompleteProgram() {
        for (String text : new String[] {"", "n", "j;", "h", "h0", "h0=", "s", "s0", "s10", "s0.", "s0.0", "s0.0=", "t",
            ";", "n1;n", "jj", "n11", "h4=0", "h0=24", "h0=01", "s24.0=0", "s0.4=0", "s0.0=-1", "t0", "t100", "t01", "J",
            "h0=--", "j;;j", "n1;x", "x;n1"}) {
            Boundary.refuses("'" + text + "'", Boundary.ARGUMENT, () -> with(text), GossipCounts::run);
            Boundary.refuses("'" + text + "'", Boundary.ARGUMENT, () -> Boundary.typed(Boundary.roomy(), text),
                    GossipCounts::run);
        }
        for (String text : new String[] {"n1", "h0=0", "h3=-", "s0.0=0", "s0.3=-", "t1", "t99", "j", "h1=4", "s4.0=2",
            "t10"}) {
            Boundary.allows("'" + text + "'", 1, () -> with(text), GossipCounts::run);
        }
    }

    // ---- 15: undo

    @Boundary.Holds(in = "Promise 15", says = {"Restores the latest saved state, and drops it.",
        "Returns how many saved states are left."})
    static void promise15RestoresTheLatest() {
        GossipCounts g = Boundary.quick(8);
        long[] before = new long[5];
        while (g.count(13) > 0) {
            g.undo();
        }
        Boundary.is("two things are left", g.count(1), 2);
        for (int n = 0; n < 5; n++) {
            before[n] = g.digest();
            switch (n) {
                case 0 -> g.take(0, 0);
                case 1 -> g.slander(0, 1);
                case 2 -> g.pass(2);
                case 3 -> g.take(0, NONE);
                default -> g.trial();
            }
        }
        for (int n = 4; n >= 0; n--) {
            Boundary.is("left", g.undo(), n);
            Boundary.is("as before call " + n, g.digest(), before[n]);
        }
        GossipCounts again = Boundary.slow(1);
        again.take(0, 0);
        again.undo();
        again.take(1, 0);
        again.undo();
        Boundary.is("what is done behind an undo is undone by itself", again.count(11) * 10 + again.count(13), 1);
    }

    @Boundary.Holds(in = "Promise 15", says = "Restores the latest saved state")
    static void promise15RestoresWhatWentByInLooksAndReports() {
        GossipCounts g = two();
        g.pass(3);
        g.slander(1, -1);
        g.take(0, 2);
        g.endsIn(1);
        g.bears(0);
        g.ifTried(0);
        g.undo();
        g.undo();
        g.undo();
        GossipCounts same = two();
        for (int n = 0; n < 3; n++) {
            same.trial();
        }
        for (int n = 0; n < 3; n++) {
            same.undo();
        }
        Boundary.is("the same state", g.digest(), same.digest());
        Boundary.is("its reports", Boundary.underWay(g), "1:1,1,3,0 0:0,1,9,0");
        Boundary.is("numbers go on from then", g.slander(2, 1), 2);
        Boundary.is("due times, too", Boundary.underWay(g), "2:2,1,2,1 1:1,1,3,0 0:0,1,9,0");
    }

    /** Two reports are under way. */
    private static GossipCounts two() {
        GossipCounts g = Boundary.slow(4);
        g.set(0, 9);
        g.take(0, 0);
        g.put(0, 0, 1);
        return g;
    }

    @Boundary.Holds(in = "Promise 15", says = "Throws `IllegalStateException` if there is none")
    static void promise15NoneIsLeft() {
        Boundary.refuses("at first", Boundary.STATE, GossipCounts::new, GossipCounts::undo);
        for (int calls = 1; calls <= 8; calls++) {
            GossipCounts g = new GossipCounts();
            for (int n = 0; n < calls; n++) {
                g.add(0);
            }
            for (int n = 0; n < Math.min(calls, 6); n++) {
                Boundary.is("undo", Check.outcome(g::undo), Math.min(calls, 6) - 1 - n);
            }
            Boundary.is("then none", Check.outcome(g::undo), Boundary.STATE);
            Boundary.is("things that cannot be undone", g.count(1), Math.max(0, calls - 6));
        }
    }
}
