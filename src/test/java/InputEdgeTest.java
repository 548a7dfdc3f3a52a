/** The edges of promises 1 to 8: a new object, the input buffer, texts and their errors, names. */
public final class InputEdgeTest {
    private static final String RULES = "rules drift 1 slack 2 least 3 age 50 hops 2;";
    private static final String TWO = RULES + "agent a;agent b;way x;way y;";
    private static final String SIX_AGENTS = "agent a;agent b;agent c;agent d;agent e;agent f;";
    private static final String SIX_WAYS = "way a;way b;way c;way d;way e;way f;";
    private static final String[] KEYWORDS = {"rules", "drift", "slack", "least", "age", "hops", "agent", "way", "link",
        "trust", "probe"};

    public static void main(String[] args) throws Exception {
        Edge.runAll(InputEdgeTest.class);
    }

    // Promise 1, and what the document says of an object before its first successful load().

    static void promise01NoAgentsAndWays() {
        PathTrust x = new PathTrust();
        Edge.is("agents and ways", x.property(0) + " " + x.property(1), "0 0");
    }

    static void promise01RulesAndTimeBeforeTheFirstLoad() {
        PathTrust x = new PathTrust();
        Edge.is("drift", x.property(3), 1);
        Edge.is("slack", x.property(4), 2);
        Edge.is("least", x.property(5), 3);
        Edge.is("age", x.property(6), 50);
        Edge.is("hops", x.property(7), 2);
        Edge.is("time", x.property(2), 0);
    }

    static void promise01StillSoBehindALoadThatFailed() {
        PathTrust x = new PathTrust();
        Check.load(x, "rules drift 9 slack 9 least 9 age 9 hops 3;agent a;way x;agent");
        Edge.is(x.property(0) + " " + x.property(1) + " " + x.property(3) + " " + x.property(4) + " " + x.property(5)
                + " " + x.property(6) + " " + x.property(7), "0 0 1 2 3 50 2");
    }

    static void promise01EmptyInput() {
        Edge.refuses("no byte", PathTrust::new, Check.ARGUMENT, x -> x.truncate(1));
        Edge.is("the first bytes", new PathTrust().append(0, 0, 0, 0, 0), 20);
    }

    static void promise01EmptyOutput() {
        Edge.refuses("no byte", PathTrust::new, Check.INDEX, x -> x.outputByte(0));
    }

    static void promise01EmptySlots() {
        Edge.refuses("slot 0", PathTrust::new, Check.STATE, x -> x.restore(0));
        Edge.refuses("slot 1", PathTrust::new, Check.STATE, x -> x.restore(1));
    }

    static void promise01NothingToUndo() {
        Edge.is("undoCount", new PathTrust().undoCount(), 0);
        Edge.refuses("undo", PathTrust::new, Check.STATE, x -> x.undo());
    }

    static void promise01NoMessagesAndLinks() {
        PathTrust x = new PathTrust();
        Edge.is("messages and links", x.property(8) + " " + x.property(9), "0 0");
        Edge.refuses("message", PathTrust::new, Check.ELEMENT, y -> y.message(0, 0));
        Edge.refuses("lose", PathTrust::new, Check.STATE, y -> y.lose());
    }

    static void promise01ChangesBeforeTheFirstLoad() {
        PathTrust x = new PathTrust();
        Edge.is("deliver, exchange, pass", x.deliver(100) + " " + x.exchange(6) + " " + x.pass(99), "0 0 0");
        Edge.is("setRule", x.setRule(3, 1), 50);
        Edge.is("keep and restore", x.keep(0) + " " + x.restore(0), "99 99");
        Edge.is("undo", x.undo() + " " + x.undo() + " " + x.undo(), "4 3 2");
        Edge.is("the time", x.property(2), 0);
    }

    static void promise01NoAgentForAnyCall() {
        Edge.Call[] calls = {
            x -> x.trust(0, 0), x -> x.neighbors(0), x -> x.distance(0, 0), x -> x.bottleneck(0, 0),
            x -> x.mostTrusted(0), x -> x.reports(0), x -> x.report(0, 0, 0), x -> x.status(0, 0), x -> x.moved(0, 0, 0),
            x -> x.own(0, 0), x -> x.belief(0, 0, 0), x -> x.sources(0, 0), x -> x.contradicted(0, 0),
            x -> x.majority(0, 0), x -> x.majorityBound(0, 0, 0), x -> x.best(0, 0), x -> x.rivals(0),
            x -> x.nextProbe(0), x -> x.regret(0), x -> x.saved(0), x -> x.agreeing(0, 0), x -> x.common(0, 0),
            x -> x.account(0, 0), x -> x.standing(0), x -> x.beliefIf(0, 0, 0, 0, 0), x -> x.trustIf(0, 0, 0, 0, 0),
            x -> x.informed(0, 0, 0), x -> x.widthAfter(0, 0, 0), x -> x.widthWithout(0, 0, 0), x -> x.mostUseful(0),
            x -> x.bestThen(0), x -> x.probe(0, 0, 0, 0), x -> x.share(0), x -> x.relay(0), x -> x.link(0, 1, true),
            x -> x.setTrust(0, 1, 0), x -> x.forget(0, 0), x -> x.cleanse(0), x -> x.writeBeliefs(0),
            x -> x.writeReports(0),
        };
        for (int i = 0; i < calls.length; i++) {
            Edge.refuses("call " + i, PathTrust::new, Check.INDEX, calls[i]);
        }
    }

    // Promise 2: "The input buffer holds at most 600 bytes."

    private static PathTrust filled(int length) {
        PathTrust x = new PathTrust();
        for (int i = 0; i < length; i += 20) {
            x.append(i, 0, 0, 0, 0);
        }
        x.truncate(length);
        return x;
    }

    static void promise02ReturnsTheNewLength() {
        PathTrust x = new PathTrust();
        for (int length = 20; length <= 600; length += 20) {
            Edge.is("length", x.append(0, 0, 0, 0, 0), length);
        }
        x.truncate(1);
        Edge.is("behind 1 byte", x.append(0, 0, 0, 0, 0), 21);
    }

    static void promise02SixHundredBytesAndNotMore() {
        Edge.is("behind 579", filled(579).append(0, 0, 0, 0, 0), 599);
        Edge.is("behind 580", filled(580).append(0, 0, 0, 0, 0), 600);
        Edge.refuses("behind 581", () -> filled(581), Check.STATE, x -> x.append(0, 0, 0, 0, 0));
        Edge.refuses("behind 599", () -> filled(599), Check.STATE, x -> x.append(0, 0, 0, 0, 0));
        Edge.refuses("behind 600", () -> filled(600), Check.STATE, x -> x.append(0, 0, 0, 0, 0));
    }

    static void promise02RefusedBytesLeaveNoTrace() {
        PathTrust x = filled(600);
        x.truncate(0);
        String text = TWO + " ".repeat(600 - TWO.length());
        Check.put(x, text);
        try {
            x.append(-1, -1, -1, -1, -1);
            Edge.is("it throws", false, true);
        } catch (IllegalStateException e) {
            Edge.is("the text is as it was", x.load(), 2);
        }
    }

    static void promise02MostSignificantByteFirst() {
        PathTrust x = Edge.good(1, RULES + "agent abcdef;");
        x.append(0x61626364, 0x65660000, 0, 0, 0);
        x.truncate(6);
        Edge.is("abcdef", x.findAgent(), 0);
        x.append(0x64636261, 0x65660000, 0, 0, 0);
        x.truncate(6);
        Edge.is("dcbaef", x.findAgent(), Edge.NONE);
    }

    static void promise02EachOfTheFiveParameters() {
        PathTrust x = new PathTrust();
        x.append(0x72756c65, 0x73206472, 0x69667420, 0x31736c61, 0x636b2032);
        x.append(0x6c656173, 0x74203320, 0x61676520, 0x3530686f, 0x70732032);
        x.append(0x3b616765, 0x6e742061, 0x3b776179, 0x20782020, 0x2020203b);
        Edge.is("rules drift 1slack 2least 3 age 50hops 2;agent a;way x     ;", x.load(), 1);
    }

    static void promise02BytesOfNegativeNumbers() {
        PathTrust x = Edge.good(1, RULES + "agent a;");
        // The letter a is 0x61: with the top bit it is another byte.
        x.append(0xe1000000, 0, 0, 0, 0);
        x.truncate(1);
        Edge.is("0xe1 is not a", x.findAgent(), Edge.NONE);
        x.append(Edge.LEAST, -1, Edge.GREATEST, 0, -1);
        Edge.is("0x80 begins no text", x.load() + " " + x.errorCode() + " " + x.errorPosition(), "-4 1 0");
        x.append(0x20202020, 0x202020ff, -1, -1, -1);
        Edge.is("0xff is no blank", x.load() + " " + x.errorCode() + " " + x.errorPosition(), "-4 1 7");
    }

    static void promise02CannotBeUndone() {
        PathTrust x = new PathTrust();
        x.append(0, 0, 0, 0, 0);
        Edge.is(x.undoCount(), 0);
    }

    // Promise 3: "the new length, 0 to the current length".

    static void promise03BelowZero() {
        Edge.refuses("-1", () -> filled(20), Check.ARGUMENT, x -> x.truncate(-1));
        Edge.refuses("least", () -> filled(20), Check.ARGUMENT, x -> x.truncate(Edge.LEAST));
    }

    static void promise03AboveTheCurrentLength() {
        Edge.refuses("21 of 20", () -> filled(20), Check.ARGUMENT, x -> x.truncate(21));
        Edge.refuses("20 of 19", () -> filled(19), Check.ARGUMENT, x -> x.truncate(20));
        Edge.refuses("601 of 600", () -> filled(600), Check.ARGUMENT, x -> x.truncate(601));
        Edge.refuses("1 of 0", () -> filled(0), Check.ARGUMENT, x -> x.truncate(1));
        Edge.refuses("greatest", () -> filled(600), Check.ARGUMENT, x -> x.truncate(Edge.GREATEST));
    }

    static void promise03TheCurrentLength() {
        for (int length : new int[] {0, 1, 20, 580}) {
            PathTrust x = filled(length);
            x.truncate(length);
            Edge.is("length " + length, x.append(0, 0, 0, 0, 0), length + 20);
        }
        PathTrust x = filled(600);
        x.truncate(600);
        Edge.is("length 600", Check.inputLength(x), 600);
    }

    static void promise03Zero() {
        PathTrust x = filled(600);
        x.truncate(0);
        Edge.is(x.append(0, 0, 0, 0, 0), 20);
    }

    static void promise03TheFirstBytesStay() {
        PathTrust x = Edge.good(2, RULES + "agent ab;agent abc;");
        Check.put(x, "abcd");
        x.truncate(3);
        Edge.is("abc", x.findAgent(), 1);
        Check.put(x, "abcd");
        x.truncate(3);
        x.truncate(2);
        Edge.is("ab", x.findAgent(), 0);
    }

    // Promise 4: the text as a whole.

    static void promise04EmptyText() {
        Edge.error(1, "", 0);
    }

    static void promise04TextOfBlanks() {
        Edge.error(1, " ", 1);
        Edge.error(1, "\n", 1);
        Edge.error(1, " ".repeat(600), 600);
    }

    static void promise04TextOfOneStatement() {
        PathTrust x = Edge.good(0, RULES);
        Edge.is("rules", x.property(3) + " " + x.property(4) + " " + x.property(5) + " " + x.property(6) + " "
                + x.property(7), "1 2 3 50 2");
    }

    static void promise04TextOfSixHundredBytes() {
        String text = TWO + "probe a x 1 2";
        Edge.good(2, text + " ".repeat(599 - text.length()) + ";");
        Edge.error(1, text + " ".repeat(600 - text.length()), 600);
        Edge.error(1, text + " ".repeat(598 - text.length()) + ";|;");
    }

    static void promise04MostStatements() {
        // A text of so many statements that blanks have no room.
        StringBuilder text = new StringBuilder("rules drift1slack2least3age50hops2;agent a;way x;");
        int probes = 0;
        while (text.length() + 14 <= 600) {
            text.append("probe a x0 0;");
            probes++;
        }
        Edge.is("probes", Edge.good(1, text.toString()).account(0, 0), probes);
    }

    static void promise04EachStatementEnds() {
        Edge.error(1, RULES + "agent a |way x;");
        Edge.error(1, RULES + "agent a|");
        Edge.error(1, "rules drift 1 slack 2 least 3 age 50 hops 2 |agent a;");
        Edge.error(1, TWO + "link a b |link b a;");
        Edge.error(1, TWO + "link a b trust 5 |probe a x 1 2;");
        Edge.error(1, TWO + "probe a x 1 2 |agent c;");
        Edge.error(1, TWO + "|;");
    }

    static void promise04EndOfTheTextAnywhere() {
        String[] tokens = (TWO.replace(";", " ; ") + "link a b trust 5 ; probe a x 1 2 ;").split(" +");
        StringBuilder text = new StringBuilder();
        for (String token : tokens) {
            text.append(token).append(" \n");
            if (token.equals(";")) {
                Edge.is("good: " + text, Check.load(new PathTrust(), text.toString()) >= 0, true);
            } else {
                Edge.error(1, text.toString(), text.length());
            }
        }
    }

    static void promise04AnyOtherTokenInPlaceOfEach() {
        String[] tokens = (TWO.replace(";", " ; ") + "link a b trust 5 ; probe a x 1 2 ;").split(" +");
        for (int i = 0; i < tokens.length; i++) {
            for (String other : new String[] {".", "A", "drift", "longest"}) {
                StringBuilder text = new StringBuilder();
                for (int k = 0; k < tokens.length; k++) {
                    text.append(k == i ? "|" + other : tokens[k]).append(' ');
                }
                if (!tokens[i].equals(other)) {
                    Edge.error(1, text.toString());
                }
            }
        }
    }

    static void promise04EmptiesTheBuffer() {
        PathTrust x = new PathTrust();
        Check.load(x, TWO);
        Edge.is("behind a good text", x.append(0, 0, 0, 0, 0), 20);
        x.load();
        Edge.is("behind a bad one", x.append(0, 0, 0, 0, 0), 20);
    }

    static void promise04ReturnsTheNumberOfAgents() {
        Edge.good(0, RULES + SIX_WAYS);
        Edge.good(1, RULES + "agent a;");
        Edge.good(6, RULES + SIX_AGENTS);
    }

    static void promise04EverythingIsThatOfTheText() {
        PathTrust x = Edge.busy();
        Edge.is("load", Check.load(x, "rules drift 7 slack 8 least 9 age 10 hops 1;agent q;"), 1);
        Edge.is("agents, ways, messages, links", x.property(0) + " " + x.property(1) + " " + x.property(8) + " "
                + x.property(9), "1 0 0 0");
        Edge.is("time", x.property(2), 0);
        Edge.is("the parse error", x.errorCode() + " " + x.errorPosition(), "0 -1");
        Edge.is("reports", x.reports(0), 0);
        for (int what = 0; what < 5; what++) {
            Edge.is("account " + what, x.account(0, what), 0);
        }
    }

    static void promise04SlotsAndOutputStay() {
        PathTrust x = Edge.busy();
        String output = Check.output(x);
        Check.load(x, RULES);
        Edge.is("output", Check.output(x), output);
        Edge.is("slot 0", x.restore(0) + " " + x.property(0) + " " + x.reports(0), "0 3 2");
    }

    static void promise04OnlyBufferAndParseErrorChangeByAnError() {
        PathTrust x = Edge.busy();
        Check.put(x, TWO + "agent");
        Edge.is("the answer", x.load(), PathTrust.PARSE_ERROR);
        PathTrust y = Edge.busy();
        Check.load(y, TWO + "agent");
        Check.put(x, "b");
        Check.put(y, "b");
        Edge.is("alike", Edge.all(x), Edge.all(y));
        PathTrust z = Edge.busy();
        Check.load(z, TWO + "agent");
        Check.put(z, "b");
        String error = "error 1 " + (TWO.length() + 5);
        Edge.is("all but the error", Edge.all(z), Edge.all(Edge.busy()).replace("error 1 5", error));
    }

    // Promise 4: tokens.

    static void promise04LettersAreAToZ() {
        Edge.good(1, RULES + "agent az;");
        Edge.error(1, RULES + "agent |`;");
        Edge.error(1, RULES + "agent a|{;");
        Edge.error(1, RULES + "agent |A;");
        Edge.error(1, RULES + "agent a|Z;");
    }

    static void promise04DigitsAreZeroToNine() {
        Edge.good(2, TWO + "probe a x 0 9;");
        Edge.error(1, TWO + "probe a x 0 |/;");
        Edge.error(1, TWO + "probe a x 0 |:;");
        Edge.error(1, TWO + "probe a x |-1 9;");
        Edge.error(1, TWO + "probe a x |+1 9;");
        Edge.error(1, TWO + "probe a x 1|.0 9;");
    }

    static void promise04SpaceAndNewlineAloneSeparate() {
        Edge.good(2, "\n \n" + TWO.replace(" ", "\n ") + " \n");
        for (int sign = 0; sign < 256; sign++) {
            boolean blank = sign == 32 || sign == 10;
            boolean letter = sign >= 'a' && sign <= 'z';
            boolean digit = sign >= '0' && sign <= '9';
            if (!blank && !letter && !digit && sign != ';') {
                Edge.error(1, RULES + "agent a " + (char) sign + ";", RULES.length() + 8);
            }
        }
    }

    static void promise04TokensAreMaximal() {
        Edge.error(1, RULES + "|agenta;");
        Edge.error(1, TWO + "probe a x 12|;");
        Edge.error(3, TWO + "probe |ax 1 2;");
        Edge.error(3, TWO + "probe a |xy 1 2;");
        Edge.good(2, TWO + "link a b trust10;probe a x1 2;");
        Edge.error(1, RULES + "agent a|1;");
        Edge.error(1, RULES + "agent|1a;");
    }

    static void promise04SymbolsStandAlone() {
        Edge.error(1, RULES + "|;;");
        Edge.error(1, TWO + "probe a x |--1 2;");
    }

    private static void number(String before, String behind, int from, int to) {
        Edge.good(2, before + from + behind);
        Edge.good(2, before + to + behind);
        Edge.error(2, before + "|" + (to + 1) + behind);
        if (from > 0) {
            Edge.error(2, before + "|" + (from - 1) + behind);
        }
        Edge.error(2, before + "|" + (4294967296L + from) + behind);
        Edge.error(2, before + "|" + (8589934592L + to) + behind);
        Edge.error(2, before + "|1844674407370955161" + (6 + from % 4) + behind);
        Edge.error(2, before + "|2147483648" + behind);
        Edge.error(2, before + "|" + "9".repeat(300) + behind);
        Edge.error(2, before + "|1" + "0".repeat(300) + behind);
        Edge.good(2, before + "0".repeat(300) + to + behind);
    }

    private static final String NAMES = ";agent a;agent b;way x;";

    static void promise04Drift() {
        number("rules drift ", " slack 2 least 3 age 50 hops 2" + NAMES, 0, 20);
        PathTrust x = Edge.good(2, "rules drift 20 slack 2 least 3 age 50 hops 2" + NAMES);
        Edge.is("the value", x.property(3), 20);
    }

    static void promise04Slack() {
        number("rules drift 1 slack ", " least 3 age 50 hops 2" + NAMES, 0, 50);
        PathTrust x = Edge.good(2, "rules drift 1 slack 50 least 3 age 50 hops 2" + NAMES);
        Edge.is("the value", x.property(4), 50);
    }

    static void promise04Least() {
        number("rules drift 1 slack 2 least ", " age 50 hops 2" + NAMES, 0, 10);
        PathTrust x = Edge.good(2, "rules drift 1 slack 2 least 10 age 50 hops 2" + NAMES);
        Edge.is("the value", x.property(5), 10);
    }

    static void promise04Age() {
        number("rules drift 1 slack 2 least 3 age ", " hops 2" + NAMES, 1, 99);
        PathTrust x = Edge.good(2, "rules drift 1 slack 2 least 3 age 99 hops 2" + NAMES);
        Edge.is("the value", x.property(6), 99);
    }

    static void promise04Hops() {
        number("rules drift 1 slack 2 least 3 age 50 hops ", NAMES, 1, 3);
        PathTrust x = Edge.good(2, "rules drift 1 slack 2 least 3 age 50 hops 3" + NAMES);
        Edge.is("the value", x.property(7), 3);
    }

    static void promise04Trust() {
        number(TWO + "link a b trust ", ";", 0, 10);
        PathTrust least = Edge.good(2, TWO + "link a b trust 0;");
        Edge.is("0 of each one", least.trust(0, 1) + " " + least.trust(1, 0), "0 0");
        PathTrust most = Edge.good(2, TWO + "link b a trust 10;");
        Edge.is("10 of each one", most.trust(0, 1) + " " + most.trust(1, 0), "10 10");
    }

    static void promise04TrustLeftOutIsFive() {
        PathTrust x = Edge.good(2, TWO + "link b a;");
        Edge.is("5 of each one", x.trust(0, 1) + " " + x.trust(1, 0), "5 5");
    }

    static void promise04LowBound() {
        number(TWO + "probe a x ", " 999;", 0, 999);
    }

    static void promise04HighBound() {
        number(TWO + "probe a x 0 ", ";", 0, 999);
    }

    static void promise04HighBoundNotBelowTheLowOne() {
        Edge.good(2, TWO + "probe a x 7 7;probe a y 999 999;probe b x 0 0;");
        Edge.error(2, TWO + "probe a x 7 |6;");
        Edge.error(2, TWO + "probe a x 7 |0;");
        Edge.error(2, TWO + "probe a x 999 |998;");
        Edge.error(2, TWO + "probe a x 10 |9;");
    }

    // Promise 4: statements.

    static void promise04RulesAreTheFirstStatement() {
        Edge.error(1, "|agent a;" + RULES);
        Edge.error(1, "|way a;");
        Edge.error(1, "|;" + RULES);
    }

    static void promise04RulesAreNoOtherStatement() {
        Edge.error(1, RULES + "|" + RULES);
        Edge.error(1, TWO + "link a b;|rules");
    }

    static void promise04NamesOfOneToSixLetters() {
        Edge.good(3, RULES + "agent a;agent abcde;agent abcdef;way x;way uvwxy;way uvwxyz;");
        Edge.error(1, RULES + "agent |abcdefg;");
        Edge.error(1, RULES + "way |abcdefg;");
        Edge.error(1, RULES + "agent |;");
        Edge.error(1, RULES + "way |;");
        Edge.error(1, TWO + "link |abcdefg b;");
        Edge.error(1, TWO + "link a |abcdefg;");
        Edge.error(1, TWO + "probe |abcdefg x 1 2;");
        Edge.error(1, TWO + "probe a |abcdefg 1 2;");
        Edge.error(1, RULES + "agent |" + "a".repeat(500) + ";");
    }

    static void promise04KeywordsAreNoNames() {
        for (String keyword : KEYWORDS) {
            Edge.error(1, RULES + "agent |" + keyword + ";");
            Edge.error(1, RULES + "way |" + keyword + ";");
            Edge.error(1, TWO + "link |" + keyword + " b;");
            Edge.error(1, TWO + "link a |" + keyword + ";");
            Edge.error(1, TWO + "probe |" + keyword + " x 1 2;");
            Edge.error(1, TWO + "probe a |" + keyword + " 1 2;");
        }
    }

    static void promise04NamesBesideKeywords() {
        for (String keyword : KEYWORDS) {
            String shorter = keyword.substring(0, keyword.length() - 1);
            Edge.good(3, RULES + "agent " + shorter + ";agent " + keyword + "s;agent x" + keyword.substring(1) + ";");
            Edge.good(0, RULES + "way " + shorter + ";way " + keyword + "s;way x" + keyword.substring(1) + ";");
        }
    }

    static void promise04SixAgents() {
        Edge.good(6, RULES + SIX_AGENTS);
        Edge.error(4, RULES + SIX_AGENTS + "|agent g;");
        Edge.error(4, RULES + SIX_AGENTS + "|agent a;");
        Edge.error(4, RULES + SIX_AGENTS + "|agent");
        Edge.error(4, RULES + SIX_AGENTS + "way g;\n|agent .");
    }

    static void promise04SixWays() {
        Edge.is("six", Edge.good(0, RULES + SIX_WAYS).property(1), 6);
        Edge.error(4, RULES + SIX_WAYS + "|way g;");
        Edge.error(4, RULES + SIX_WAYS + "|way a;");
        Edge.error(4, RULES + SIX_WAYS + "|way");
        Edge.error(4, RULES + SIX_WAYS + "agent g;|way .");
    }

    static void promise04SixOfEach() {
        Edge.is("ways", Edge.good(6, RULES + SIX_AGENTS + SIX_WAYS).property(1), 6);
        Edge.error(4, RULES + SIX_WAYS + SIX_AGENTS + "|way g;");
        Edge.error(4, RULES + SIX_WAYS + SIX_AGENTS + "|agent g;");
    }

    static void promise04DifferentNames() {
        Edge.error(3, RULES + "agent a;agent |a;");
        Edge.error(3, RULES + "agent abcdef;agent b;agent |abcdef;");
        Edge.error(3, RULES + "way a;way |a;");
        Edge.error(3, RULES + "way a;way b;way c;way d;way e;way |e;");
        Edge.good(2, RULES + "agent abcdef;agent abcdeg;");
        Edge.good(2, RULES + "agent a;agent aa;");
    }

    static void promise04AnAgentAndAWayOfTheSameName() {
        PathTrust x = Edge.good(2, RULES + "agent a;way a;way b;agent b;probe b a 1 2;");
        Edge.is("b's report of the way a", Check.list(x, 1), "1 1 0 0 0 1 2;");
    }

    static void promise04NamesThatNobodyHas() {
        Edge.error(3, TWO + "link |c a;");
        Edge.error(3, TWO + "link a |c;");
        Edge.error(3, TWO + "link |x a;");
        Edge.error(3, TWO + "link a |x;");
        Edge.error(3, TWO + "probe |x x 1 2;");
        Edge.error(3, TWO + "probe a |a 1 2;");
    }

    static void promise04ToldAhead() {
        Edge.error(3, RULES + "agent a;link a |b;agent b;");
        Edge.error(3, RULES + "agent a;link |b a;agent b;");
        Edge.error(3, RULES + "way x;probe |a x 1 2;agent a;");
        Edge.error(3, RULES + "agent a;probe a |x 1 2;way x;");
        Edge.error(3, RULES + "link |a b;");
    }

    static void promise04ALinkWithItself() {
        Edge.error(3, TWO + "link a |a;");
        Edge.error(3, TWO + "link b |b trust 11;");
    }

    static void promise04ALinkThatWasTold() {
        Edge.error(3, TWO + "link a b;link a |b;");
        Edge.error(3, TWO + "link a b trust 0;link b |a;");
        Edge.error(3, TWO + "agent c;link a b;link a c;link b c;link c |a trust 5;");
    }

    static void promise04TheSmallestCodeCounts() {
        // A keyword that nobody has, a long word that nobody has: 1 and 3.
        Edge.error(1, TWO + "link |trust b;");
        Edge.error(1, TWO + "probe a |abcdefg 1 2;");
        // A word agent that cannot stand, and would be that of a seventh agent: 1 and 4.
        Edge.error(1, RULES + SIX_AGENTS + "way a |agent g;");
        Edge.error(1, RULES + SIX_WAYS + "agent a |way g;");
        // A number that cannot stand, and would be out of range: 1 and 2.
        Edge.error(1, TWO + "link a b |99999;");
        Edge.error(1, "rules |99999");
    }

    static void promise04TheFirstErrorCounts() {
        Edge.error(2, "rules drift |21 slack 51 least 11;");
        Edge.error(3, TWO + "link |c a trust 11;");
        Edge.error(3, TWO + "probe a |z 5 4;");
        Edge.error(2, TWO + "probe a x 5 |4.");
    }

    static void promise04NumbersOfAgentsAndWays() {
        PathTrust x = Edge.good(6, RULES + "agent f;agent e;way b;agent d;agent c;way a;agent b;agent a;");
        Edge.is("the first agent", Check.findAgent(x, "f"), 0);
        Edge.is("the last agent", Check.findAgent(x, "a"), 5);
        Edge.is("the first way", Check.findWay(x, "b"), 0);
        Edge.is("the last way", Check.findWay(x, "a"), 1);
    }

    static void promise04AProbeOfATextIsCounted() {
        PathTrust x = Edge.good(2, TWO + "probe b x 0 999;probe b x 1 2;probe b y 3 3;probe b x 5 5;");
        Edge.is("probes", x.account(1, 0) + " " + x.account(0, 0), "4 0");
        Edge.is("one report for each way", Check.list(x, 1), "1 1 0 1 0 3 3;1 1 0 0 0 5 5;");
        Edge.is("nothing is judged", x.account(1, 3) + " " + x.account(1, 4), "0 0");
    }

    // Promises 5 and 6.

    static void promise05NoLoad() {
        Edge.is(new PathTrust().errorCode(), 0);
    }

    static void promise05EachCode() {
        Edge.error(1, "|x");
        Edge.error(2, "rules drift |21");
        Edge.error(3, RULES + "link |a");
        Edge.error(4, RULES + SIX_AGENTS + "|agent");
    }

    static void promise05OfTheLastLoad() {
        PathTrust x = new PathTrust();
        Check.load(x, "rules drift 21");
        Edge.is("2", x.errorCode(), 2);
        Check.load(x, "");
        Edge.is("1", x.errorCode(), 1);
        Check.load(x, RULES);
        Edge.is("none", x.errorCode(), 0);
        Edge.asks(y -> y.errorCode());
    }

    static void promise06NoLoad() {
        Edge.is(new PathTrust().errorPosition(), Edge.NONE);
    }

    static void promise06TheFirstByteOfTheText() {
        Edge.error(1, "|agent a;");
        Edge.error(1, "|\u0000");
    }

    static void promise06TheFirstByteOfTheToken() {
        Edge.error(2, "rules drift |000021 slack 1;");
        Edge.error(1, RULES + "agent \n |abcdefghij;");
    }

    static void promise06TheEndOfTheText() {
        Edge.error(1, RULES + "agent a|");
        Edge.error(1, RULES + "agent a \n |");
        Edge.error(1, "rules" + " ".repeat(595) + "|");
    }

    static void promise06TheLastByteOfAFullText() {
        Edge.error(1, RULES + " ".repeat(599 - RULES.length()) + "|;");
    }

    static void promise06OfTheLastLoad() {
        PathTrust x = new PathTrust();
        Check.load(x, "rules drift 21");
        Edge.is("12", x.errorPosition(), 12);
        Check.load(x, RULES);
        Edge.is("none", x.errorPosition(), Edge.NONE);
        Check.load(x, "");
        Edge.is("0", x.errorPosition(), 0);
        Edge.asks(y -> y.errorPosition());
    }

    // Promises 7 and 8.

    private static PathTrust named() {
        return Edge.good(2, RULES + "agent abcdef;agent z;way ghijkl;way y;way z;");
    }

    private static void finds(String name, int agent, int way) {
        Edge.is("agent " + name, Check.findAgent(named(), name), agent);
        Edge.is("way " + name, Check.findWay(named(), name), way);
    }

    static void promise07EmptyInput() {
        Edge.is("no bytes", named().findAgent(), Edge.NONE);
        Edge.is("nor agents", new PathTrust().findAgent(), Edge.NONE);
    }

    static void promise07ShortAndLongNames() {
        finds("abcdef", 0, Edge.NONE);
        finds("abcde", Edge.NONE, Edge.NONE);
        finds("abcdefg", Edge.NONE, Edge.NONE);
        finds("abcdeg", Edge.NONE, Edge.NONE);
        finds("bbcdef", Edge.NONE, Edge.NONE);
        finds("z", 1, 2);
    }

    static void promise07TheWholeContent() {
        for (String name : new String[] {"z ", " z", "z\n", "\nz", "zz", "z;", "z\u0000", "\u0000z", "Z", "\u00fa", "{"}) {
            finds(name, Edge.NONE, Edge.NONE);
        }
    }

    static void promise07FullInput() {
        PathTrust x = named();
        Check.put(x, "z" + " ".repeat(599));
        Edge.is("600 bytes", x.findAgent(), Edge.NONE);
        Edge.is("empty afterwards", Check.inputLength(x), 0);
        Check.put(x, "z".repeat(600));
        Edge.is("600 letters", x.findAgent(), Edge.NONE);
    }

    static void promise07EmptyAfterwards() {
        PathTrust x = named();
        Check.findAgent(x, "z");
        Edge.is("found", x.append(0, 0, 0, 0, 0), 20);
        x.findAgent();
        Edge.is("not found", x.append(0, 0, 0, 0, 0), 20);
        Edge.is("nothing to undo but the load", x.undoCount(), 1);
    }

    static void promise07Keywords() {
        for (String keyword : KEYWORDS) {
            finds(keyword, Edge.NONE, Edge.NONE);
        }
    }

    static void promise08EmptyInput() {
        Edge.is("no bytes", named().findWay(), Edge.NONE);
        Edge.is("nor ways", new PathTrust().findWay(), Edge.NONE);
    }

    static void promise08ShortAndLongNames() {
        finds("ghijkl", Edge.NONE, 0);
        finds("ghijk", Edge.NONE, Edge.NONE);
        finds("ghijklm", Edge.NONE, Edge.NONE);
        finds("hhijkl", Edge.NONE, Edge.NONE);
        finds("y", Edge.NONE, 1);
    }

    static void promise08FullInput() {
        PathTrust x = named();
        Check.put(x, "y" + "\n".repeat(599));
        Edge.is("600 bytes", x.findWay(), Edge.NONE);
        Edge.is("empty afterwards", Check.inputLength(x), 0);
    }

    static void promise08EmptyAfterwards() {
        PathTrust x = named();
        Check.findWay(x, "y");
        Edge.is("found", x.append(0, 0, 0, 0, 0), 20);
        x.findWay();
        Edge.is("not found", x.append(0, 0, 0, 0, 0), 20);
        Edge.is("nothing to undo but the load", x.undoCount(), 1);
    }
}
