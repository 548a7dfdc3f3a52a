/** Promises 54 to 57: slots, and what can be undone. */
public final class UndoTest {
    private static final String TEXT = "rules drift 1 slack 2 least 3 age 20 hops 2;agent a;agent b;agent c;"
            + "way x;way y;link a b trust 8;link a c trust 6;"
            + "probe a x 155 160;probe b x 150 160;probe c x 190 250;probe c y 20 30;";

    private interface Change {
        void make(PathTrust x);
    }

    public static void main(String[] args) {
        undoEach();
        undoLoad();
        lastSix();
        notUndone();
        slots();
        slotsStay();
        wrongInputs();
        Check.end("UndoTest");
    }

    /** What undo() restores. */
    private static String restored(PathTrust x) {
        return Check.state(x).replaceAll("error .*\n", "\n");
    }

    private static void undoEach() {
        Change[] changes = {
            x -> x.probe(0, 1, 1, 2),
            x -> x.share(1),
            x -> x.relay(2),
            x -> x.deliver(3),
            x -> x.lose(),
            x -> x.exchange(1),
            x -> x.exchange(2),
            x -> x.pass(99),
            x -> x.link(1, 2, true),
            x -> x.link(0, 1, false),
            x -> x.setTrust(0, 1, 0),
            x -> x.setRule(0, 9),
            x -> x.forget(2, 0),
            x -> x.cleanse(0),
            x -> x.restore(0),
            x -> x.deliver(100),
        };
        for (int i = 0; i < changes.length; i++) {
            PathTrust x = Check.made(TEXT);
            x.keep(0);
            x.setTrust(0, 2, 10);
            x.share(2);
            x.deliver(1);
            x.share(1);
            x.pass(2);
            String before = restored(x);
            changes[i].make(x);
            Check.is("promise 56: change " + i + " is one", !restored(x).equals(before), true);
            Check.is("promise 57: change " + i, x.undoCount(), 6);
            Check.is("promise 56: change " + i, x.undo(), 5);
            Check.is("promise 56: change " + i + " is undone", restored(x), before);
        }
        nothingChanged();
    }

    private static void nothingChanged() {
        Change[] changes = {
            x -> x.share(1),
            x -> x.relay(1),
            x -> x.deliver(5),
            x -> x.exchange(1),
            x -> x.link(0, 1, false),
            x -> x.setTrust(0, 2, 6),
            x -> x.setRule(0, 1),
            x -> x.forget(1, 0),
            x -> x.cleanse(1),
        };
        for (Change change : changes) {
            PathTrust x = Check.made("rules drift 1 slack 2 least 3 age 20 hops 2;agent a;agent b;agent c;way x;"
                    + "link a c trust 6;");
            String before = restored(x);
            change.make(x);
            Check.is("promise 57: also if nothing changes", x.undoCount(), 2);
            Check.is("promise 57: nothing changed", restored(x), before);
            Check.is("promise 56: also if nothing changes", x.undo(), 1);
        }
    }

    private static void undoLoad() {
        PathTrust x = Check.made(TEXT);
        x.share(2);
        x.pass(1);
        String before = restored(x);
        Check.load(x, "rules drift 2 slack 2 least 2 age 2 hops 2;way w;agent aa;");
        Check.is("promise 4: the text", x.property(0) + " " + Check.findAgent(x, "aa") + Check.findAgent(x, "a"), "1 0-1");
        Check.is("promise 57: a load", x.undoCount(), 4);
        Check.is("promise 56: a load", x.undo(), 3);
        Check.is("promise 56: a load is undone", restored(x), before);
        Check.is("promise 56: the names, too", "" + Check.findAgent(x, "c") + Check.findWay(x, "y")
                + Check.findAgent(x, "aa") + Check.findWay(x, "w"), "21-1-1");
        Check.is("promise 56: on and on", x.undo() + " " + x.undo() + " " + x.undo(), "2 1 0");
        Check.is("promise 56: as at first", restored(x), restored(new PathTrust()));
    }

    private static void lastSix() {
        PathTrust x = Check.made(TEXT);
        for (int i = 0; i < 9; i++) {
            x.pass(1);
            Check.is("promise 57: at most 6", x.undoCount(), Math.min(6, i + 2));
        }
        for (int i = 8; i >= 3; i--) {
            Check.is("promise 56: the rest", x.undo(), i - 3);
            Check.is("promise 56: step by step", x.property(2), i);
        }
        Check.fails("promise 56: no more than 6", x, Check.STATE, () -> x.undo());
        Check.is("promise 57: none", x.undoCount(), 0);
        String before = restored(x);
        x.pass(1);
        Check.is("promise 57: one again", x.undoCount(), 1);
        Check.is("promise 56: one again", x.undo() + " " + restored(x).equals(before), "0 true");
    }

    private static void notUndone() {
        PathTrust x = Check.made(TEXT);
        x.pass(1);
        x.writeBeliefs(0);
        String output = Check.output(x);
        Check.is("a parse error", Check.load(x, "rules."), PathTrust.PARSE_ERROR);
        x.append(1, 2, 3, 4, 5);
        x.keep(1);
        Check.is("promise 57: none of these", x.undoCount(), 2);
        x.undo();
        Check.is("promise 56: the buffers stay", Check.inputLength(x) + Check.output(x), 20 + output);
        Check.is("promise 56: the parse error stays", x.errorCode() + " " + x.errorPosition(), "1 5");
        Check.is("promise 56: the slots stay", x.property(2) + " " + x.restore(1), "0 1");
    }

    private static void slots() {
        PathTrust x = Check.made(TEXT);
        Check.is("promise 54: the time", x.keep(0), 0);
        String kept = restored(x);
        x.share(1);
        x.share(2);
        x.deliver(2);
        x.setTrust(0, 1, 1);
        x.setRule(0, 7);
        x.pass(5);
        Check.is("promise 54: the time", x.keep(1), 5);
        String keptLater = restored(x);
        Check.is("promise 55: the time", x.restore(0), 0);
        Check.is("promise 55: everything", restored(x), kept);
        Check.is("promise 55: the time", x.restore(1), 5);
        Check.is("promise 55: everything", restored(x), keptLater);
        x.pass(1);
        Check.is("promise 55: the slot keeps it", x.restore(1) + " " + x.restore(1), "5 5");
        x.pass(2);
        Check.is("promise 54: in place of what was there", x.keep(1), 7);
        x.pass(3);
        Check.is("promise 55: what is there", x.restore(1) + " " + x.restore(0), "7 0");
        Check.is("promise 57: what can be undone is not kept", x.undoCount(), 6);
        Check.is("promise 56: a restore is undone", x.undo() + " " + x.property(2), "5 7");
    }

    private static void slotsStay() {
        PathTrust x = new PathTrust();
        Check.is("promise 54: before a load", x.keep(1), 0);
        Check.load(x, TEXT);
        Check.is("promise 54: not to be undone", x.undoCount(), 1);
        x.keep(0);
        x.undo();
        Check.is("promise 55: behind undo and before a load", x.restore(0) + " " + x.property(0), "0 3");
        Check.is("promise 55: the names, too", Check.findAgent(x, "c") + " " + Check.findWay(x, "y"), "2 1");
        Check.load(x, "rules drift 2 slack 2 least 2 age 2 hops 2;");
        Check.is("promise 55: behind a load", x.restore(0) + " " + x.property(0), "0 3");
        Check.is("promise 55: without agents", x.restore(1) + " " + x.property(0) + " " + x.property(6), "0 0 50");
    }

    private static void wrongInputs() {
        PathTrust x = Check.made(TEXT);
        x.keep(0);
        for (int slot : new int[] {-1, 2, Integer.MIN_VALUE, Integer.MAX_VALUE}) {
            Check.fails("promise 54: slot", x, Check.INDEX, () -> x.keep(slot));
            Check.fails("promise 55: slot", x, Check.INDEX, () -> x.restore(slot));
        }
        Check.fails("promise 55: nothing is kept there", x, Check.STATE, () -> x.restore(1));
        x.undo();
        Check.fails("promise 56: nothing to undo", x, Check.STATE, () -> x.undo());
        PathTrust fresh = new PathTrust();
        Check.fails("promise 56: nothing to undo at first", fresh, Check.STATE, () -> fresh.undo());
    }
}
