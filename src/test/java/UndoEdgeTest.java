/** The edges of promises 54 to 57 and of section 4: slots, and what can be undone. */
public final class UndoEdgeTest {
    private static final String TEXT = Edge.text("rules drift 1 slack 2 least 3 age 20 hops 2;", 3, 2,
            "link a b trust 8;link a c trust 6;probe a u 100 120;probe b u 150 160;probe c v 5 6;");

    private record Change(String name, Edge.Call call) {
    }

    /** Each call that can be undone; on the desk of rich() each of them changes something. */
    private static final Change[] CHANGES = {
        new Change("load", x -> Check.load(x, Edge.STILL + "agent q;")),
        new Change("probe", x -> x.probe(0, 0, 1, 2)),
        new Change("share", x -> x.share(1)),
        new Change("relay", x -> x.relay(0)),
        new Change("deliver", x -> x.deliver(1)),
        new Change("lose", x -> x.lose()),
        new Change("exchange", x -> x.exchange(1)),
        new Change("pass", x -> x.pass(99)),
        new Change("link", x -> x.link(1, 2, true)),
        new Change("link that ends", x -> x.link(0, 1, false)),
        new Change("setTrust", x -> x.setTrust(0, 1, 0)),
        new Change("setRule", x -> x.setRule(4, 3)),
        new Change("forget", x -> x.forget(0, 0)),
        new Change("cleanse", x -> x.cleanse(0)),
        new Change("restore", x -> x.restore(0)),
    };

    public static void main(String[] args) throws Exception {
        Edge.runAll(UndoEdgeTest.class);
    }

    private static PathTrust rich() {
        PathTrust x = Check.made(TEXT);
        x.keep(0);
        x.share(1);
        x.deliver(1);
        x.pass(2);
        x.share(2);
        return x;
    }

    /** All that undo() restores. */
    private static String world(PathTrust x) {
        return Check.state(x).replaceAll("error [^\n]*", "").replaceAll("(?s)\n[^\n]*\\z", "");
    }

    // Promise 54.

    static void promise54Slots() {
        for (int slot : new int[] {-1, 2, Edge.LEAST, Edge.GREATEST}) {
            Edge.refuses("" + slot, Edge::busy, Check.INDEX, x -> x.keep(slot));
        }
        Edge.is("0 and 1", Edge.busy().keep(0) + " " + Edge.busy().keep(1), "3 3");
    }

    static void promise54TheTime() {
        PathTrust x = rich();
        Edge.is("2", x.keep(0), 2);
        x.pass(99);
        Edge.is("101", x.keep(0), 101);
        Edge.is("at first", new PathTrust().keep(1), 0);
    }

    static void promise54CannotBeUndone() {
        PathTrust x = new PathTrust();
        x.keep(0);
        x.keep(1);
        Edge.is("undoCount", x.undoCount(), 0);
        x.pass(1);
        x.keep(0);
        x.undo();
        Edge.is("the slot stays", x.restore(0), 1);
    }

    static void promise54InPlaceOfWhatWasThere() {
        PathTrust x = new PathTrust();
        x.keep(0);
        x.keep(1);
        x.pass(5);
        x.keep(1);
        Edge.is("the other one stays", x.restore(0) + " " + x.restore(1), "0 5");
    }

    static void promise54NothingIsKeptOfWhatCanBeUndone() {
        PathTrust x = rich();
        Edge.is("five", x.undoCount(), 5);
        x.keep(1);
        x.undo();
        x.undo();
        x.undo();
        x.restore(1);
        Edge.is("two and the restore", x.undoCount(), 3);
        x.undo();
        x.undo();
        x.undo();
        Check.fails("promise 54: no more", x, Check.STATE, () -> x.undo());
    }

    static void promise54BeforeTheFirstLoad() {
        PathTrust x = new PathTrust();
        x.setRule(3, 99);
        x.keep(1);
        Check.load(x, TEXT);
        x.restore(1);
        Edge.is(x.property(0) + " " + x.property(1) + " " + x.property(6) + " " + x.property(9), "0 0 99 0");
    }

    // Promise 55.

    static void promise55Slots() {
        for (int slot : new int[] {-1, 2, Edge.LEAST, Edge.GREATEST}) {
            Edge.refuses("" + slot, Edge::busy, Check.INDEX, x -> x.restore(slot));
        }
    }

    static void promise55NothingIsKeptThere() {
        Edge.refuses("slot 1", Edge::busy, Check.STATE, x -> x.restore(1));
        Edge.refuses("slot 0", () -> Check.made(TEXT), Check.STATE, x -> x.restore(0));
        PathTrust x = Check.made(TEXT);
        x.keep(1);
        Check.fails("promise 55: the other slot", x, Check.STATE, () -> x.restore(0));
        Edge.is("the slot", x.restore(1), 0);
    }

    static void promise55EverythingAsItWasKept() {
        PathTrust x = rich();
        String kept = world(x);
        x.keep(1);
        for (Change change : CHANGES) {
            change.call.on(x);
            if (!change.name.equals("restore")) {
                Edge.is(change.name + ": the time", x.restore(1), 2);
            }
        }
        Edge.is("restore", x.restore(1), 2);
        Edge.is("all", world(x), kept);
    }

    static void promise55AfterEachChange() {
        for (Change change : CHANGES) {
            PathTrust x = rich();
            String kept = world(x);
            x.keep(1);
            change.call.on(x);
            x.restore(1);
            Edge.is(change.name, world(x), kept);
        }
    }

    static void promise55TheSlotKeepsIt() {
        PathTrust x = rich();
        String kept = world(x);
        x.keep(1);
        for (int i = 0; i < 3; i++) {
            Edge.is("again", x.restore(1), 2);
            x.probe(0, 0, 9, 9);
            x.setTrust(0, 1, 1);
            x.pass(30);
            x.deliver(1);
        }
        x.restore(1);
        Edge.is("all", world(x), kept);
    }

    static void promise55BuffersAndParseErrorStay() {
        PathTrust x = rich();
        x.writeReports(0);
        String output = Check.output(x);
        Check.load(x, "rules drift 21");
        Check.put(x, "b");
        x.restore(0);
        Edge.is("output", Check.output(x), output);
        Edge.is("parse error", x.errorCode() + " " + x.errorPosition(), "2 12");
        Edge.is("input", x.findAgent(), 1);
    }

    // Promise 56.

    static void promise56NothingToUndo() {
        Edge.refuses("at first", PathTrust::new, Check.STATE, x -> x.undo());
        Edge.refuses("when all is undone", () -> {
            PathTrust y = new PathTrust();
            y.pass(1);
            y.undo();
            return y;
        }, Check.STATE, x -> x.undo());
    }

    static void promise56TheLastSix() {
        PathTrust x = new PathTrust();
        for (int i = 0; i < 8; i++) {
            x.pass(1);
        }
        for (int i = 5; i >= 0; i--) {
            Edge.is("still to undo", x.undo(), i);
            Edge.is("the time", x.property(2), i + 2);
        }
        Check.fails("promise 56: a seventh", x, Check.STATE, () -> x.undo());
        Edge.is("the time", x.property(2), 2);
    }

    static void promise56ExactlySix() {
        PathTrust x = new PathTrust();
        for (int i = 0; i < 6; i++) {
            x.pass(1);
        }
        for (int i = 5; i >= 0; i--) {
            Edge.is("still to undo", x.undo() + " " + x.property(2), i + " " + i);
        }
        Check.fails("promise 56: a seventh", x, Check.STATE, () -> x.undo());
    }

    static void promise56SixAgainBehindUndoing() {
        PathTrust x = new PathTrust();
        for (int i = 0; i < 9; i++) {
            x.pass(1);
        }
        x.undo();
        x.undo();
        x.pass(10);
        x.pass(10);
        x.pass(10);
        Edge.is("six", x.undoCount() + " " + x.property(2), "6 37");
        int[] times = {27, 17, 7, 6, 5, 4};
        for (int i = 0; i < 6; i++) {
            Edge.is("still to undo", x.undo() + " " + x.property(2), (5 - i) + " " + times[i]);
        }
        Check.fails("promise 56: a seventh", x, Check.STATE, () -> x.undo());
    }

    static void promise56EachCallThatCanBeUndone() {
        for (Change change : CHANGES) {
            PathTrust x = rich();
            String before = world(x);
            change.call.on(x);
            Edge.is(change.name + " changes something", world(x).equals(before), false);
            Edge.is(change.name + " is undone", x.undo(), 5);
            Edge.is(change.name + " and all is as before", world(x), before);
        }
    }

    static void promise56TwoAfterEachOther() {
        for (Change first : CHANGES) {
            PathTrust x = rich();
            String before = world(x);
            first.call.on(x);
            x.setRule(0, 20);
            x.undo();
            x.undo();
            Edge.is(first.name, world(x), before);
        }
    }

    static void promise56NamesOfATextThatIsUndone() {
        PathTrust x = Edge.good(1, Edge.STILL + "agent first;way one;");
        Check.load(x, Edge.STILL + "agent second;agent third;way two;");
        x.undo();
        Edge.is("agents", Check.findAgent(x, "first") + " " + Check.findAgent(x, "second"), "0 -1");
        Edge.is("ways", Check.findWay(x, "one") + " " + Check.findWay(x, "two"), "0 -1");
        Edge.is("back to the beginning", x.undo() + " " + x.property(0) + " " + x.property(6), "0 0 50");
    }

    static void promise56BuffersParseErrorAndSlotsStay() {
        PathTrust x = rich();
        x.pass(1);
        x.writeReports(0);
        String output = Check.output(x);
        x.keep(1);
        Check.load(x, "rules drift 21");
        Check.put(x, "b");
        x.undo();
        Edge.is("output", Check.output(x), output);
        Edge.is("parse error", x.errorCode() + " " + x.errorPosition(), "2 12");
        Edge.is("input", x.findAgent(), 1);
        Edge.is("slots", x.restore(1) + " " + x.restore(0), "3 0");
    }

    static void promise56OutputOfALaterCallStays() {
        PathTrust x = rich();
        x.pass(1);
        x.writeBeliefs(0);
        String output = Check.output(x);
        x.undo();
        x.undo();
        Edge.is(Check.output(x), output);
    }

    // Promise 57.

    static void promise57ZeroToSix() {
        PathTrust x = new PathTrust();
        for (int i = 0; i < 9; i++) {
            Edge.is("behind " + i, x.undoCount(), Math.min(i, 6));
            x.pass(1);
        }
        x.undo();
        Edge.is("behind undo()", x.undoCount(), 5);
        Edge.asks(y -> y.undoCount());
    }

    static void promise57EachCallThatCanBeUndone() {
        for (Change change : CHANGES) {
            PathTrust x = rich();
            change.call.on(x);
            Edge.is(change.name, x.undoCount(), 6);
        }
    }

    static void promise57AlsoIfNothingChanges() {
        Change[] none = {
            new Change("load", x -> Check.load(x, Edge.text(Edge.STILL, 2, 1, "link a b;"))),
            new Change("share", x -> x.share(0)),
            new Change("relay", x -> x.relay(0)),
            new Change("deliver", x -> x.deliver(1)),
            new Change("exchange", x -> x.exchange(6)),
            new Change("link", x -> x.link(0, 1, true)),
            new Change("setTrust", x -> x.setTrust(0, 1, 5)),
            new Change("setRule", x -> x.setRule(0, 0)),
            new Change("forget", x -> x.forget(0, 0)),
            new Change("cleanse", x -> x.cleanse(0)),
        };
        for (Change change : none) {
            PathTrust x = Edge.desk(2, 1, "link a b;");
            String before = world(x);
            change.call.on(x);
            Edge.is(change.name + " changes nothing", world(x), before);
            Edge.is(change.name + " counts", x.undoCount(), 2);
            Edge.is(change.name + " is undone", x.undo(), 1);
        }
        PathTrust x = Edge.desk(2, 1, "link a b;");
        x.keep(0);
        x.restore(0);
        Edge.is("restore counts", x.undoCount(), 2);
    }

    static void promise57CallsThatCannotBeUndone() {
        Edge.Call[] calls = {
            x -> x.append(0, 0, 0, 0, 0), x -> x.truncate(0), x -> x.load(), x -> x.findAgent(), x -> x.findWay(),
            x -> x.keep(0), x -> x.writeBeliefs(0), x -> x.writeReports(0), x -> x.bestThen(0),
            x -> x.beliefIf(0, 0, 1, 2, 0), x -> x.trustIf(0, 0, 1, 2, 1), x -> x.informed(0, 0, 1),
            x -> x.widthAfter(0, 0, 1), x -> x.mostUseful(0),
        };
        for (int i = 0; i < calls.length; i++) {
            PathTrust x = rich();
            calls[i].on(x);
            Edge.is("call " + i, x.undoCount(), 5);
        }
    }

    static void promise57CallsThatThrow() {
        Edge.Call[] calls = {
            x -> x.probe(0, 0, 2, 1), x -> x.share(3), x -> x.relay(3), x -> x.deliver(0), x -> x.exchange(0),
            x -> x.pass(0), x -> x.link(0, 0, true), x -> x.setTrust(1, 2, 5), x -> x.setRule(0, 21),
            x -> x.forget(0, 2), x -> x.cleanse(3), x -> x.restore(1),
        };
        for (int i = 0; i < calls.length; i++) {
            PathTrust x = rich();
            try {
                calls[i].on(x);
                Edge.is("call " + i + " throws", false, true);
            } catch (RuntimeException e) {
                Edge.is("call " + i, x.undoCount(), 5);
            }
        }
    }
}
