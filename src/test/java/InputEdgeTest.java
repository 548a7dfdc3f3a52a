/** The edges of promises 1 to 3, 7 and 8: a new object, the input buffer, names. */
public final class InputEdgeTest {
    private static final String RULES = "rules drift 1 slack 2 least 3 age 50 hops 2;";
    private static final String TWO = RULES + "agent a;agent b;way x;way y;";

    public static void main(String[] args) throws Exception {
        Edge.runAll(InputEdgeTest.class);
    }

    // Promise 1, and what the document says of an object before its first successful load().

    static void promise01NoAgentsAndWays() {
        PathTrust x = new PathTrust();
        Edge.is("agents and ways", x.property(0) + " " + x.property(1), "0 0");
    }

    static void promise01RulesAndTimeBeforeTheFirstLoad() {
        PathTrust x = new PathTrust();
        Edge.is("drift", x.property(3), 1);
        Edge.is("slack", x.property(4), 2);
        Edge.is("least", x.property(5), 3);
        Edge.is("age", x.property(6), 50);
        Edge.is("hops", x.property(7), 2);
        Edge.is("time", x.property(2), 0);
    }

    static void promise01StillSoBehindALoadThatFailed() {
        PathTrust x = new PathTrust();
        Check.load(x, "rules drift 9 slack 9 least 9 age 9 hops 3;agent a;way x;agent");
        Edge.is(x.property(0) + " " + x.property(1) + " " + x.property(3) + " " + x.property(4) + " " + x.property(5)
                + " " + x.property(6) + " " + x.property(7), "0 0 1 2 3 50 2");
    }

    static void promise01EmptyInput() {
        Edge.refuses("no byte", PathTrust::new, Check.ARGUMENT, x -> x.truncate(1));
        Edge.is("the first bytes", new PathTrust().append(0, 0, 0, 0, 0), 20);
    }

    static void promise01EmptyOutput() {
        Edge.refuses("no byte", PathTrust::new, Check.INDEX, x -> x.outputByte(0));
    }

    static void promise01EmptySlots() {
        Edge.refuses("slot 0", PathTrust::new, Check.STATE, x -> x.restore(0));
        Edge.refuses("slot 1", PathTrust::new, Check.STATE, x -> x.restore(1));
    }

    static void promise01NothingToUndo() {
        Edge.is("undoCount", new PathTrust().undoCount(), 0);
        Edge.refuses("undo", PathTrust::new, Check.STATE, x -> x.undo());
    }

    static void promise01NoMessagesAndLinks() {
        PathTrust x = new PathTrust();
        Edge.is("messages and links", x.property(8) + " " + x.property(9), "0 0");
        Edge.refuses("message", PathTrust::new, Check.ELEMENT, y -> y.message(0, 0));
        Edge.refuses("lose", PathTrust::new, Check.STATE, y -> y.lose());
    }

    static void promise01ChangesBeforeTheFirstLoad() {
        PathTrust x = new PathTrust();
        Edge.is("deliver, exchange, pass", x.deliver(100) + " " + x.exchange(6) + " " + x.pass(99), "0 0 0");
        Edge.is("setRule", x.setRule(3, 1), 50);
        Edge.is("keep and restore", x.keep(0) + " " + x.restore(0), "99 99");
        Edge.is("undo", x.undo() + " " + x.undo() + " " + x.undo(), "4 3 2");
        Edge.is("the time", x.property(2), 0);
    }

    static void promise01NoAgentForAnyCall() {
        Edge.Call[] calls = {
            x -> x.trust(0, 0), x -> x.neighbors(0), x -> x.distance(0, 0), x -> x.bottleneck(0, 0),
            x -> x.mostTrusted(0), x -> x.reports(0), x -> x.report(0, 0, 0), x -> x.status(0, 0),
            x -> x.moved(0, 0, 0), x -> x.own(0, 0), x -> x.belief(0, 0, 0), x -> x.sources(0, 0),
            x -> x.contradicted(0, 0), x -> x.majority(0, 0), x -> x.majorityBound(0, 0, 0), x -> x.best(0, 0),
            x -> x.rivals(0), x -> x.nextProbe(0), x -> x.regret(0), x -> x.saved(0), x -> x.agreeing(0, 0),
            x -> x.common(0, 0), x -> x.account(0, 0), x -> x.standing(0), x -> x.beliefIf(0, 0, 0, 0, 0),
            x -> x.trustIf(0, 0, 0, 0, 0), x -> x.informed(0, 0, 0), x -> x.widthAfter(0, 0, 0),
            x -> x.widthWithout(0, 0, 0), x -> x.mostUseful(0), x -> x.bestThen(0), x -> x.probe(0, 0, 0, 0),
            x -> x.share(0), x -> x.relay(0), x -> x.link(0, 1, true), x -> x.setTrust(0, 1, 0), x -> x.forget(0, 0),
            x -> x.cleanse(0), x -> x.writeBeliefs(0), x -> x.writeReports(0),
        };
        for (int i = 0; i < calls.length; i++) {
            Edge.refuses("call " + i, PathTrust::new, Check.INDEX, calls[i]);
        }
    }

    // Promise 2: "The input buffer holds at most 600 bytes."

    private static PathTrust filled(int length) {
        PathTrust x = new PathTrust();
        for (int i = 0; i < length; i += 20) {
            x.append(i, 0, 0, 0, 0);
        }
        x.truncate(length);
        return x;
    }

    static void promise02ReturnsTheNewLength() {
        PathTrust x = new PathTrust();
        for (int length = 20; length <= 600; length += 20) {
            Edge.is("length", x.append(0, 0, 0, 0, 0), length);
        }
        x.truncate(1);
        Edge.is("behind 1 byte", x.append(0, 0, 0, 0, 0), 21);
    }

    static void promise02SixHundredBytesAndNotMore() {
        Edge.is("behind 579", filled(579).append(0, 0, 0, 0, 0), 599);
        Edge.is("behind 580", filled(580).append(0, 0, 0, 0, 0), 600);
        Edge.refuses("behind 581", () -> filled(581), Check.STATE, x -> x.append(0, 0, 0, 0, 0));
        Edge.refuses("behind 599", () -> filled(599), Check.STATE, x -> x.append(0, 0, 0, 0, 0));
        Edge.refuses("behind 600", () -> filled(600), Check.STATE, x -> x.append(0, 0, 0, 0, 0));
    }

    static void promise02RefusedBytesLeaveNoTrace() {
        PathTrust x = filled(600);
        x.truncate(0);
        String text = TWO + " ".repeat(600 - TWO.length());
        Check.put(x, text);
        try {
            x.append(-1, -1, -1, -1, -1);
            Edge.is("it throws", false, true);
        } catch (IllegalStateException e) {
            Edge.is("the text is as it was", x.load(), 2);
        }
    }

    static void promise02MostSignificantByteFirst() {
        PathTrust x = Edge.good(1, RULES + "agent abcdef;");
        x.append(0x61626364, 0x65660000, 0, 0, 0);
        x.truncate(6);
        Edge.is("abcdef", x.findAgent(), 0);
        x.append(0x64636261, 0x65660000, 0, 0, 0);
        x.truncate(6);
        Edge.is("dcbaef", x.findAgent(), Edge.NONE);
    }

    static void promise02EachOfTheFiveParameters() {
        PathTrust x = new PathTrust();
        x.append(0x72756c65, 0x73206472, 0x69667420, 0x31736c61, 0x636b2032);
        x.append(0x6c656173, 0x74203320, 0x61676520, 0x3530686f, 0x70732032);
        x.append(0x3b616765, 0x6e742061, 0x3b776179, 0x20782020, 0x2020203b);
        Edge.is("rules drift 1slack 2least 3 age 50hops 2;agent a;way x     ;", x.load(), 1);
    }

    static void promise02BytesOfNegativeNumbers() {
        PathTrust x = Edge.good(1, RULES + "agent a;");
        // The letter a is 0x61: with the top bit it is another byte.
        x.append(0xe1000000, 0, 0, 0, 0);
        x.truncate(1);
        Edge.is("0xe1 is not a", x.findAgent(), Edge.NONE);
        x.append(Edge.LEAST, -1, Edge.GREATEST, 0, -1);
        Edge.is("0x80 begins no text", x.load() + " " + x.errorCode() + " " + x.errorPosition(), "-4 1 0");
        x.append(0x20202020, 0x202020ff, -1, -1, -1);
        Edge.is("0xff is no blank", x.load() + " " + x.errorCode() + " " + x.errorPosition(), "-4 1 7");
    }

    static void promise02CannotBeUndone() {
        PathTrust x = new PathTrust();
        x.append(0, 0, 0, 0, 0);
        Edge.is(x.undoCount(), 0);
    }

    // Promise 3: "the new length, 0 to the current length".

    static void promise03BelowZero() {
        Edge.refuses("-1", () -> filled(20), Check.ARGUMENT, x -> x.truncate(-1));
        Edge.refuses("least", () -> filled(20), Check.ARGUMENT, x -> x.truncate(Edge.LEAST));
    }

    static void promise03AboveTheCurrentLength() {
        Edge.refuses("21 of 20", () -> filled(20), Check.ARGUMENT, x -> x.truncate(21));
        Edge.refuses("20 of 19", () -> filled(19), Check.ARGUMENT, x -> x.truncate(20));
        Edge.refuses("601 of 600", () -> filled(600), Check.ARGUMENT, x -> x.truncate(601));
        Edge.refuses("1 of 0", () -> filled(0), Check.ARGUMENT, x -> x.truncate(1));
        Edge.refuses("greatest", () -> filled(600), Check.ARGUMENT, x -> x.truncate(Edge.GREATEST));
    }

    static void promise03TheCurrentLength() {
        for (int length : new int[] {0, 1, 20, 580}) {
            PathTrust x = filled(length);
            x.truncate(length);
            Edge.is("length " + length, x.append(0, 0, 0, 0, 0), length + 20);
        }
        PathTrust x = filled(600);
        x.truncate(600);
        Edge.is("length 600", Check.inputLength(x), 600);
    }

    static void promise03Zero() {
        PathTrust x = filled(600);
        x.truncate(0);
        Edge.is(x.append(0, 0, 0, 0, 0), 20);
    }

    static void promise03TheFirstBytesStay() {
        PathTrust x = Edge.good(2, RULES + "agent ab;agent abc;");
        Check.put(x, "abcd");
        x.truncate(3);
        Edge.is("abc", x.findAgent(), 1);
        Check.put(x, "abcd");
        x.truncate(3);
        x.truncate(2);
        Edge.is("ab", x.findAgent(), 0);
    }

    // Promises 7 and 8.

    private static PathTrust named() {
        return Edge.good(2, RULES + "agent abcdef;agent z;way ghijkl;way y;way z;");
    }

    private static void finds(String name, int agent, int way) {
        Edge.is("agent " + name, Check.findAgent(named(), name), agent);
        Edge.is("way " + name, Check.findWay(named(), name), way);
    }

    static void promise07EmptyInput() {
        Edge.is("no bytes", named().findAgent(), Edge.NONE);
        Edge.is("nor agents", new PathTrust().findAgent(), Edge.NONE);
    }

    static void promise07ShortAndLongNames() {
        finds("abcdef", 0, Edge.NONE);
        finds("abcde", Edge.NONE, Edge.NONE);
        finds("abcdefg", Edge.NONE, Edge.NONE);
        finds("abcdeg", Edge.NONE, Edge.NONE);
        finds("bbcdef", Edge.NONE, Edge.NONE);
        finds("z", 1, 2);
    }

    static void promise07TheWholeContent() {
        String[] none = {"z ", " z", "z\n", "\nz", "zz", "z;", "z\u0000", "\u0000z", "Z", "\u00fa", "{"};
        for (String name : none) {
            finds(name, Edge.NONE, Edge.NONE);
        }
    }

    /** Where letters are added up in a number, these would wrap around to a name, or be carried over to one. */
    static void promise07NoNameByWrappingAround() {
        for (String name : new String[] {"dabcdef", "habcdef", "dghijkl", "xghijkl", "ddabcdef", "`z", "``z", "aZ",
            "ghijj\u008c", "abcdd\u0086", "abcdfF", "ghijlL"}) {
            finds(name, Edge.NONE, Edge.NONE);
        }
        for (int sign = 0; sign < 256; sign++) {
            if (sign != 'z' && sign != 'y') {
                finds("" + (char) sign, Edge.NONE, Edge.NONE);
            }
        }
    }

    static void promise07FullInput() {
        PathTrust x = named();
        Check.put(x, "z" + " ".repeat(599));
        Edge.is("600 bytes", x.findAgent(), Edge.NONE);
        Edge.is("empty afterwards", Check.inputLength(x), 0);
        Check.put(x, "z".repeat(600));
        Edge.is("600 letters", x.findAgent(), Edge.NONE);
    }

    static void promise07EmptyAfterwards() {
        PathTrust x = named();
        Check.findAgent(x, "z");
        Edge.is("found", x.append(0, 0, 0, 0, 0), 20);
        x.findAgent();
        Edge.is("not found", x.append(0, 0, 0, 0, 0), 20);
        Edge.is("nothing to undo but the load", x.undoCount(), 1);
    }

    static void promise07Keywords() {
        for (String keyword : Edge.KEYWORDS) {
            finds(keyword, Edge.NONE, Edge.NONE);
        }
    }

    static void promise08EmptyInput() {
        Edge.is("no bytes", named().findWay(), Edge.NONE);
        Edge.is("nor ways", new PathTrust().findWay(), Edge.NONE);
    }

    static void promise08ShortAndLongNames() {
        finds("ghijkl", Edge.NONE, 0);
        finds("ghijk", Edge.NONE, Edge.NONE);
        finds("ghijklm", Edge.NONE, Edge.NONE);
        finds("hhijkl", Edge.NONE, Edge.NONE);
        finds("y", Edge.NONE, 1);
    }

    static void promise08FullInput() {
        PathTrust x = named();
        Check.put(x, "y" + "\n".repeat(599));
        Edge.is("600 bytes", x.findWay(), Edge.NONE);
        Edge.is("empty afterwards", Check.inputLength(x), 0);
    }

    static void promise08EmptyAfterwards() {
        PathTrust x = named();
        Check.findWay(x, "y");
        Edge.is("found", x.append(0, 0, 0, 0, 0), 20);
        x.findWay();
        Edge.is("not found", x.append(0, 0, 0, 0, 0), 20);
        Edge.is("nothing to undo but the load", x.undoCount(), 1);
    }
}
