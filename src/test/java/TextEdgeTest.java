/** The edges of promises 4 to 6: texts and their errors. */
public final class TextEdgeTest {
    private static final String RULES = "rules drift 1 slack 2 least 3 age 50 hops 2;";
    private static final String TWO = RULES + "agent a;agent b;way x;way y;";
    private static final String SIX_AGENTS = "agent a;agent b;agent c;agent d;agent e;agent f;";
    private static final String SIX_WAYS = "way a;way b;way c;way d;way e;way f;";

    public static void main(String[] args) throws Exception {
        Edge.runAll(TextEdgeTest.class);
    }

    // Promise 4: the text as a whole.

    static void promise04EmptyText() {
        Edge.error(1, "", 0);
    }

    static void promise04TextOfBlanks() {
        Edge.error(1, " ", 1);
        Edge.error(1, "\n", 1);
        Edge.error(1, " ".repeat(600), 600);
    }

    static void promise04TextOfOneStatement() {
        PathTrust x = Edge.good(0, RULES);
        Edge.is("rules", x.property(3) + " " + x.property(4) + " " + x.property(5) + " " + x.property(6) + " "
                + x.property(7), "1 2 3 50 2");
    }

    static void promise04TextOfSixHundredBytes() {
        String text = TWO + "probe a x 1 2";
        Edge.good(2, text + " ".repeat(599 - text.length()) + ";");
        Edge.error(1, text + " ".repeat(600 - text.length()), 600);
        Edge.error(1, text + " ".repeat(598 - text.length()) + ";|;");
    }

    static void promise04MostStatements() {
        // A text of so many statements that blanks have no room.
        StringBuilder text = new StringBuilder("rules drift1slack2least3age50hops2;agent a;way x;");
        int probes = 0;
        while (text.length() + 14 <= 600) {
            text.append("probe a x0 0;");
            probes++;
        }
        Edge.is("probes", Edge.good(1, text.toString()).account(0, 0), probes);
    }

    static void promise04EachStatementEnds() {
        Edge.error(1, RULES + "agent a |way x;");
        Edge.error(1, RULES + "agent a|");
        Edge.error(1, "rules drift 1 slack 2 least 3 age 50 hops 2 |agent a;");
        Edge.error(1, TWO + "link a b |link b a;");
        Edge.error(1, TWO + "link a b trust 5 |probe a x 1 2;");
        Edge.error(1, TWO + "probe a x 1 2 |agent c;");
        Edge.error(1, TWO + "|;");
    }

    static void promise04EndOfTheTextAnywhere() {
        String[] tokens = (TWO.replace(";", " ; ") + "link a b trust 5 ; probe a x 1 2 ;").split(" +");
        StringBuilder text = new StringBuilder();
        for (String token : tokens) {
            text.append(token).append(" \n");
            if (token.equals(";")) {
                Edge.is("good: " + text, Check.load(new PathTrust(), text.toString()) >= 0, true);
            } else {
                Edge.error(1, text.toString(), text.length());
            }
        }
    }

    static void promise04AnyOtherTokenInPlaceOfEach() {
        String[] tokens = (TWO.replace(";", " ; ") + "link a b trust 5 ; probe a x 1 2 ;").split(" +");
        for (int i = 0; i < tokens.length; i++) {
            for (String other : new String[] {".", "A", "drift", "longest"}) {
                StringBuilder text = new StringBuilder();
                for (int k = 0; k < tokens.length; k++) {
                    text.append(k == i ? "|" + other : tokens[k]).append(' ');
                }
                if (!tokens[i].equals(other)) {
                    Edge.error(1, text.toString());
                }
            }
        }
    }

    static void promise04EmptiesTheBuffer() {
        PathTrust x = new PathTrust();
        Check.load(x, TWO);
        Edge.is("behind a good text", x.append(0, 0, 0, 0, 0), 20);
        x.load();
        Edge.is("behind a bad one", x.append(0, 0, 0, 0, 0), 20);
    }

    static void promise04ReturnsTheNumberOfAgents() {
        Edge.good(0, RULES + SIX_WAYS);
        Edge.good(1, RULES + "agent a;");
        Edge.good(6, RULES + SIX_AGENTS);
    }

    static void promise04EverythingIsThatOfTheText() {
        PathTrust x = Edge.busy();
        Edge.is("load", Check.load(x, "rules drift 7 slack 8 least 9 age 10 hops 1;agent q;"), 1);
        Edge.is("agents, ways, messages, links", x.property(0) + " " + x.property(1) + " " + x.property(8) + " "
                + x.property(9), "1 0 0 0");
        Edge.is("time", x.property(2), 0);
        Edge.is("the parse error", x.errorCode() + " " + x.errorPosition(), "0 -1");
        Edge.is("reports", x.reports(0), 0);
        for (int what = 0; what < 5; what++) {
            Edge.is("account " + what, x.account(0, what), 0);
        }
    }

    static void promise04NothingThatWasAskedComesToTheText() {
        PathTrust x = Edge.busy();
        x.beliefIf(0, 0, 5, 6, 0);
        x.widthAfter(0, 0, 9);
        x.bestThen(0);
        x.informed(0, 0, 0);
        Check.load(x, TWO + "link a b trust 7;probe b y 1 2;");
        PathTrust y = Edge.good(2, TWO + "link a b trust 7;probe b y 1 2;");
        x.writeBeliefs(0);
        y.writeBeliefs(0);
        Edge.is(Check.state(x).replace("undo 6", "undo 1"), Check.state(y));
        Edge.is("messages and time", x.property(8) + " " + x.property(2), "0 0");
    }

    static void promise04SlotsAndOutputStay() {
        PathTrust x = Edge.busy();
        String output = Check.output(x);
        Check.load(x, RULES);
        Edge.is("output", Check.output(x), output);
        Edge.is("slot 0", x.restore(0) + " " + x.property(0) + " " + x.reports(0), "0 3 2");
    }

    static void promise04OnlyBufferAndParseErrorChangeByAnError() {
        PathTrust x = Edge.busy();
        Check.put(x, TWO + "agent");
        Edge.is("the answer", x.load(), PathTrust.PARSE_ERROR);
        PathTrust y = Edge.busy();
        Check.load(y, TWO + "agent");
        Check.put(x, "b");
        Check.put(y, "b");
        Edge.is("alike", Edge.all(x), Edge.all(y));
        PathTrust z = Edge.busy();
        Check.load(z, TWO + "agent");
        Check.put(z, "b");
        String error = "error 1 " + (TWO.length() + 5);
        Edge.is("all but the error", Edge.all(z), Edge.all(Edge.busy()).replace("error 1 5", error));
    }

    // Promise 4: tokens.

    static void promise04LettersAreAToZ() {
        Edge.good(1, RULES + "agent az;");
        Edge.error(1, RULES + "agent |`;");
        Edge.error(1, RULES + "agent a|{;");
        Edge.error(1, RULES + "agent |A;");
        Edge.error(1, RULES + "agent a|Z;");
    }

    static void promise04DigitsAreZeroToNine() {
        Edge.good(2, TWO + "probe a x 0 9;");
        Edge.error(1, TWO + "probe a x 0 |/;");
        Edge.error(1, TWO + "probe a x 0 |:;");
        Edge.error(1, TWO + "probe a x |-1 9;");
        Edge.error(1, TWO + "probe a x |+1 9;");
        Edge.error(1, TWO + "probe a x 1|.0 9;");
    }

    static void promise04SpaceAndNewlineAloneSeparate() {
        Edge.good(2, "\n \n" + TWO.replace(" ", "\n ") + " \n");
        for (int sign = 0; sign < 256; sign++) {
            boolean blank = sign == 32 || sign == 10;
            boolean letter = sign >= 'a' && sign <= 'z';
            boolean digit = sign >= '0' && sign <= '9';
            if (!blank && !letter && !digit && sign != ';') {
                Edge.error(1, RULES + "agent a " + (char) sign + ";", RULES.length() + 8);
            }
        }
    }

    static void promise04TokensAreMaximal() {
        Edge.error(1, RULES + "|agenta;");
        Edge.error(1, TWO + "probe a x 12|;");
        Edge.error(3, TWO + "probe |ax 1 2;");
        Edge.error(3, TWO + "probe a |xy 1 2;");
        Edge.good(2, TWO + "link a b trust10;probe a x1 2;");
        Edge.error(1, RULES + "agent a|1;");
        Edge.error(1, RULES + "agent|1a;");
    }

    static void promise04SymbolsStandAlone() {
        Edge.error(1, RULES + "|;;");
        Edge.error(1, TWO + "probe a x |--1 2;");
    }

    private static void number(String before, String behind, int from, int to) {
        Edge.good(2, before + from + behind);
        Edge.good(2, before + to + behind);
        Edge.error(2, before + "|" + (to + 1) + behind);
        if (from > 0) {
            Edge.error(2, before + "|" + (from - 1) + behind);
        }
        Edge.error(2, before + "|" + (4294967296L + from) + behind);
        Edge.error(2, before + "|" + (8589934592L + to) + behind);
        Edge.error(2, before + "|1844674407370955161" + (6 + from % 4) + behind);
        Edge.error(2, before + "|2147483648" + behind);
        Edge.error(2, before + "|" + "9".repeat(300) + behind);
        Edge.error(2, before + "|1" + "0".repeat(300) + behind);
        Edge.good(2, before + "0".repeat(300) + to + behind);
    }

    private static final String NAMES = ";agent a;agent b;way x;";

    static void promise04Drift() {
        number("rules drift ", " slack 2 least 3 age 50 hops 2" + NAMES, 0, 20);
        PathTrust x = Edge.good(2, "rules drift 20 slack 2 least 3 age 50 hops 2" + NAMES);
        Edge.is("the value", x.property(3), 20);
    }

    static void promise04Slack() {
        number("rules drift 1 slack ", " least 3 age 50 hops 2" + NAMES, 0, 50);
        PathTrust x = Edge.good(2, "rules drift 1 slack 50 least 3 age 50 hops 2" + NAMES);
        Edge.is("the value", x.property(4), 50);
    }

    static void promise04Least() {
        number("rules drift 1 slack 2 least ", " age 50 hops 2" + NAMES, 0, 10);
        PathTrust x = Edge.good(2, "rules drift 1 slack 2 least 10 age 50 hops 2" + NAMES);
        Edge.is("the value", x.property(5), 10);
    }

    static void promise04Age() {
        number("rules drift 1 slack 2 least 3 age ", " hops 2" + NAMES, 1, 99);
        PathTrust x = Edge.good(2, "rules drift 1 slack 2 least 3 age 99 hops 2" + NAMES);
        Edge.is("the value", x.property(6), 99);
    }

    static void promise04Hops() {
        number("rules drift 1 slack 2 least 3 age 50 hops ", NAMES, 1, 3);
        PathTrust x = Edge.good(2, "rules drift 1 slack 2 least 3 age 50 hops 3" + NAMES);
        Edge.is("the value", x.property(7), 3);
    }

    static void promise04Trust() {
        number(TWO + "link a b trust ", ";", 0, 10);
        PathTrust least = Edge.good(2, TWO + "link a b trust 0;");
        Edge.is("0 of each one", least.trust(0, 1) + " " + least.trust(1, 0), "0 0");
        PathTrust most = Edge.good(2, TWO + "link b a trust 10;");
        Edge.is("10 of each one", most.trust(0, 1) + " " + most.trust(1, 0), "10 10");
    }

    static void promise04TrustLeftOutIsFive() {
        PathTrust x = Edge.good(2, TWO + "link b a;");
        Edge.is("5 of each one", x.trust(0, 1) + " " + x.trust(1, 0), "5 5");
    }

    static void promise04LowBound() {
        number(TWO + "probe a x ", " 999;", 0, 999);
    }

    static void promise04HighBound() {
        number(TWO + "probe a x 0 ", ";", 0, 999);
    }

    static void promise04HighBoundNotBelowTheLowOne() {
        Edge.good(2, TWO + "probe a x 7 7;probe a y 999 999;probe b x 0 0;");
        Edge.error(2, TWO + "probe a x 7 |6;");
        Edge.error(2, TWO + "probe a x 7 |0;");
        Edge.error(2, TWO + "probe a x 999 |998;");
        Edge.error(2, TWO + "probe a x 10 |9;");
    }

    // Promise 4: statements.

    static void promise04RulesAreTheFirstStatement() {
        Edge.error(1, "|agent a;" + RULES);
        Edge.error(1, "|way a;");
        Edge.error(1, "|;" + RULES);
    }

    static void promise04RulesAreNoOtherStatement() {
        Edge.error(1, RULES + "|" + RULES);
        Edge.error(1, TWO + "link a b;|rules");
    }

    static void promise04NamesOfOneToSixLetters() {
        Edge.good(3, RULES + "agent a;agent abcde;agent abcdef;way x;way uvwxy;way uvwxyz;");
        Edge.error(1, RULES + "agent |abcdefg;");
        Edge.error(1, RULES + "way |abcdefg;");
        Edge.error(1, RULES + "agent |;");
        Edge.error(1, RULES + "way |;");
        Edge.error(1, TWO + "link |abcdefg b;");
        Edge.error(1, TWO + "link a |abcdefg;");
        Edge.error(1, TWO + "probe |abcdefg x 1 2;");
        Edge.error(1, TWO + "probe a |abcdefg 1 2;");
        Edge.error(1, RULES + "agent |" + "a".repeat(500) + ";");
    }

    static void promise04KeywordsAreNoNames() {
        for (String keyword : Edge.KEYWORDS) {
            Edge.error(1, RULES + "agent |" + keyword + ";");
            Edge.error(1, RULES + "way |" + keyword + ";");
            Edge.error(1, TWO + "link |" + keyword + " b;");
            Edge.error(1, TWO + "link a |" + keyword + ";");
            Edge.error(1, TWO + "probe |" + keyword + " x 1 2;");
            Edge.error(1, TWO + "probe a |" + keyword + " 1 2;");
        }
    }

    static void promise04NamesBesideKeywords() {
        for (String keyword : Edge.KEYWORDS) {
            String shorter = keyword.substring(0, keyword.length() - 1);
            Edge.good(3, RULES + "agent " + shorter + ";agent " + keyword + "s;agent x" + keyword.substring(1) + ";");
            Edge.good(0, RULES + "way " + shorter + ";way " + keyword + "s;way x" + keyword.substring(1) + ";");
        }
    }

    static void promise04SixAgents() {
        Edge.good(6, RULES + SIX_AGENTS);
        Edge.error(4, RULES + SIX_AGENTS + "|agent g;");
        Edge.error(4, RULES + SIX_AGENTS + "|agent a;");
        Edge.error(4, RULES + SIX_AGENTS + "|agent");
        Edge.error(4, RULES + SIX_AGENTS + "way g;\n|agent .");
    }

    static void promise04SixWays() {
        Edge.is("six", Edge.good(0, RULES + SIX_WAYS).property(1), 6);
        Edge.error(4, RULES + SIX_WAYS + "|way g;");
        Edge.error(4, RULES + SIX_WAYS + "|way a;");
        Edge.error(4, RULES + SIX_WAYS + "|way");
        Edge.error(4, RULES + SIX_WAYS + "agent g;|way .");
    }

    static void promise04SixOfEach() {
        Edge.is("ways", Edge.good(6, RULES + SIX_AGENTS + SIX_WAYS).property(1), 6);
        Edge.error(4, RULES + SIX_WAYS + SIX_AGENTS + "|way g;");
        Edge.error(4, RULES + SIX_WAYS + SIX_AGENTS + "|agent g;");
    }

    static void promise04DifferentNames() {
        Edge.error(3, RULES + "agent a;agent |a;");
        Edge.error(3, RULES + "agent abcdef;agent b;agent |abcdef;");
        Edge.error(3, RULES + "way a;way |a;");
        Edge.error(3, RULES + "way a;way b;way c;way d;way e;way |e;");
        Edge.good(2, RULES + "agent abcdef;agent abcdeg;");
        Edge.good(2, RULES + "agent a;agent aa;");
    }

    static void promise04AnAgentAndAWayOfTheSameName() {
        PathTrust x = Edge.good(2, RULES + "agent a;way a;way b;agent b;probe b a 1 2;");
        Edge.is("b's report of the way a", Check.list(x, 1), "1 1 0 0 0 1 2;");
    }

    static void promise04NamesThatNobodyHas() {
        Edge.error(3, TWO + "link |c a;");
        Edge.error(3, TWO + "link a |c;");
        Edge.error(3, TWO + "link |x a;");
        Edge.error(3, TWO + "link a |x;");
        Edge.error(3, TWO + "probe |x x 1 2;");
        Edge.error(3, TWO + "probe a |a 1 2;");
    }

    static void promise04ToldAhead() {
        Edge.error(3, RULES + "agent a;link a |b;agent b;");
        Edge.error(3, RULES + "agent a;link |b a;agent b;");
        Edge.error(3, RULES + "way x;probe |a x 1 2;agent a;");
        Edge.error(3, RULES + "agent a;probe a |x 1 2;way x;");
        Edge.error(3, RULES + "link |a b;");
    }

    static void promise04ALinkWithItself() {
        Edge.error(3, TWO + "link a |a;");
        Edge.error(3, TWO + "link b |b trust 11;");
    }

    static void promise04ALinkThatWasTold() {
        Edge.error(3, TWO + "link a b;link a |b;");
        Edge.error(3, TWO + "link a b trust 0;link b |a;");
        Edge.error(3, TWO + "agent c;link a b;link a c;link b c;link c |a trust 5;");
    }

    static void promise04TheSmallestCodeCounts() {
        // A keyword that nobody has, a long word that nobody has: 1 and 3.
        Edge.error(1, TWO + "link |trust b;");
        Edge.error(1, TWO + "probe a |abcdefg 1 2;");
        // A word agent that cannot stand, and would be that of a seventh agent: 1 and 4.
        Edge.error(1, RULES + SIX_AGENTS + "way a |agent g;");
        Edge.error(1, RULES + SIX_WAYS + "agent a |way g;");
        // A number that cannot stand, and would be out of range: 1 and 2.
        Edge.error(1, TWO + "link a b |99999;");
        Edge.error(1, "rules |99999");
    }

    static void promise04TheFirstErrorCounts() {
        Edge.error(2, "rules drift |21 slack 51 least 11;");
        Edge.error(3, TWO + "link |c a trust 11;");
        Edge.error(3, TWO + "probe a |z 5 4;");
        Edge.error(2, TWO + "probe a x 5 |4.");
    }

    static void promise04NumbersOfAgentsAndWays() {
        PathTrust x = Edge.good(6, RULES + "agent f;agent e;way b;agent d;agent c;way a;agent b;agent a;");
        Edge.is("the first agent", Check.findAgent(x, "f"), 0);
        Edge.is("the last agent", Check.findAgent(x, "a"), 5);
        Edge.is("the first way", Check.findWay(x, "b"), 0);
        Edge.is("the last way", Check.findWay(x, "a"), 1);
    }

    static void promise04AProbeOfATextIsCounted() {
        PathTrust x = Edge.good(2, TWO + "probe b x 0 999;probe b x 1 2;probe b y 3 3;probe b x 5 5;");
        Edge.is("probes", x.account(1, 0) + " " + x.account(0, 0), "4 0");
        Edge.is("one report for each way", Check.list(x, 1), "1 1 0 1 0 3 3;1 1 0 0 0 5 5;");
        Edge.is("nothing is judged", x.account(1, 3) + " " + x.account(1, 4), "0 0");
    }

    // Promises 5 and 6.

    static void promise05NoLoad() {
        Edge.is(new PathTrust().errorCode(), 0);
    }

    static void promise05EachCode() {
        Edge.error(1, "|x");
        Edge.error(2, "rules drift |21");
        Edge.error(3, RULES + "link |a");
        Edge.error(4, RULES + SIX_AGENTS + "|agent");
    }

    static void promise05OfTheLastLoad() {
        PathTrust x = new PathTrust();
        Check.load(x, "rules drift 21");
        Edge.is("2", x.errorCode(), 2);
        Check.load(x, "");
        Edge.is("1", x.errorCode(), 1);
        Check.load(x, RULES);
        Edge.is("none", x.errorCode(), 0);
        Edge.asks(y -> y.errorCode());
    }

    static void promise06NoLoad() {
        Edge.is(new PathTrust().errorPosition(), Edge.NONE);
    }

    static void promise06TheFirstByteOfTheText() {
        Edge.error(1, "|agent a;");
        Edge.error(1, "|\u0000");
    }

    static void promise06TheFirstByteOfTheToken() {
        Edge.error(2, "rules drift |000021 slack 1;");
        Edge.error(1, RULES + "agent \n |abcdefghij;");
    }

    static void promise06TheEndOfTheText() {
        Edge.error(1, RULES + "agent a|");
        Edge.error(1, RULES + "agent a \n |");
        Edge.error(1, "rules" + " ".repeat(595) + "|");
    }

    static void promise06TheLastByteOfAFullText() {
        Edge.error(1, RULES + " ".repeat(599 - RULES.length()) + "|;");
    }

    static void promise06OfTheLastLoad() {
        PathTrust x = new PathTrust();
        Check.load(x, "rules drift 21");
        Edge.is("12", x.errorPosition(), 12);
        Check.load(x, RULES);
        Edge.is("none", x.errorPosition(), Edge.NONE);
        Check.load(x, "");
        Edge.is("0", x.errorPosition(), 0);
        Edge.asks(y -> y.errorPosition());
    }
}
