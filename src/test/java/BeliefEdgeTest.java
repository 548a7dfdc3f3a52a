/** The edges of promises 20 to 31: what agents believe, and what they would choose by that. */
public final class BeliefEdgeTest {
    private static final int NONE = PathTrust.NONE;

    public static void main(String[] args) throws Exception {
        Edge.runAll(BeliefEdgeTest.class);
    }

    /** Agent a in the midst of others, which it trusts so much; each of them told it its probes. */
    private static PathTrust told(String rules, int agents, int trust, String probes) {
        PathTrust x = Edge.desk(rules, agents, 2, Edge.star(agents, trust) + probes);
        for (int agent = agents - 1; agent > 0; agent--) {
            x.share(agent);
        }
        x.deliver(100);
        return x;
    }

    private static PathTrust told(int agents, String probes) {
        return told(Edge.STILL, agents, 5, probes);
    }

    // Promise 20.

    static void promise20AgentsAndWays() {
        Edge.agents((x, agent) -> x.belief(agent, 0, 0));
        Edge.ways((x, way) -> x.belief(0, way, 1));
    }

    static void promise20Ends() {
        Edge.range(0, 1, (x, end) -> x.belief(0, 0, end));
        Edge.asks(x -> x.belief(0, 0, 1));
    }

    static void promise20IndexesFirst() {
        Edge.refuses("agent and end", Edge::busy, Check.INDEX, x -> x.belief(3, 0, 2));
        Edge.refuses("way and end", Edge::busy, Check.INDEX, x -> x.belief(0, 2, -1));
    }

    static void promise20ZeroToNineHundredNinetyNineAtFirst() {
        Edge.is("alone", Check.belief(Edge.desk(1, 1, ""), 0, 0), "0-999");
        Edge.is("a probe of another way", Check.belief(told(2, "probe a v 1 2;probe b v 1 2;"), 0, 0), "0-999");
    }

    static void promise20OneNumberInCommon() {
        String own = "probe a u 100 200;";
        Edge.is("200 to 300", Check.belief(told(2, own + "probe b u 200 300;"), 0, 0), "200-200");
        Edge.is("201 to 300", Check.belief(told(2, own + "probe b u 201 300;"), 0, 0), "100-200");
        Edge.is("0 to 100", Check.belief(told(2, own + "probe b u 0 100;"), 0, 0), "100-100");
        Edge.is("0 to 99", Check.belief(told(2, own + "probe b u 0 99;"), 0, 0), "100-200");
        Edge.is("within", Check.belief(told(2, own + "probe b u 150 150;"), 0, 0), "150-150");
        Edge.is("around", Check.belief(told(2, own + "probe b u 0 999;"), 0, 0), "100-200");
        Edge.is("the same", Check.belief(told(2, own + "probe b u 100 200;"), 0, 0), "100-200");
    }

    static void promise20WithinWhatIsBelievedSoFar() {
        // c's has a number in common with the own one, but none with what is believed behind b's.
        PathTrust x = told(3, "probe a u 100 200;probe b u 100 150;probe c u 151 200;");
        Edge.is("b's is first", Check.belief(x, 0, 0), "100-150");
        x.setTrust(0, 2, 10);
        Edge.is("c's is first", Check.belief(x, 0, 0), "151-200");
    }

    static void promise20DriftToZeroAndNineHundredNinetyNineAtMost() {
        PathTrust x = told("rules drift 3 slack 0 least 0 age 99 hops 1;", 2, 10, "probe b u 7 992;");
        x.pass(2);
        Edge.is("before", Check.belief(x, 0, 0), "1-998");
        x.pass(1);
        Edge.is("behind", Check.belief(x, 0, 0), "0-999");
        x.setRule(0, 20);
        x.pass(96);
        Edge.is("20 * 99", Check.belief(x, 0, 0), "0-999");
    }

    static void promise20SlackToZeroAndNineHundredNinetyNineAtMost() {
        PathTrust x = told("rules drift 0 slack 19 least 0 age 99 hops 1;", 2, 5, "probe b u 100 899;");
        Edge.is("19 * 5", Check.belief(x, 0, 0), "5-994");
        x.setRule(1, 20);
        Edge.is("20 * 5", Check.belief(x, 0, 0), "0-999");
        x.setTrust(0, 1, 4);
        Edge.is("20 * 6", Check.belief(x, 0, 0), "0-999");
        x.setTrust(0, 1, 9);
        Edge.is("20 * 1", Check.belief(x, 0, 0), "80-919");
        x.setTrust(0, 1, 10);
        Edge.is("20 * 0", Check.belief(x, 0, 0), "100-899");
    }

    static void promise20NoSlackForAnOwnOne() {
        PathTrust x = told("rules drift 1 slack 50 least 0 age 99 hops 1;", 2, 0, "probe a u 500 510;");
        Edge.is("new", Check.belief(x, 0, 0), "500-510");
        x.pass(3);
        Edge.is("drift alone", Check.belief(x, 0, 0), "497-513");
    }

    static void promise20TheLeastTrust() {
        PathTrust x = told(2, "probe b u 10 20;");
        x.setRule(2, 4);
        Edge.is("5 of 4", Check.belief(x, 0, 0), "10-20");
        x.setRule(2, 5);
        Edge.is("5 of 5", Check.belief(x, 0, 0), "10-20");
        x.setRule(2, 6);
        Edge.is("5 of 6", Check.belief(x, 0, 0), "0-999");
        x.setTrust(0, 1, 10);
        x.setRule(2, 10);
        Edge.is("10 of 10", Check.belief(x, 0, 0), "10-20");
        x.setTrust(0, 1, 9);
        Edge.is("9 of 10", Check.belief(x, 0, 0), "0-999");
        x.setTrust(0, 1, 0);
        x.setRule(2, 1);
        Edge.is("0 of 1", Check.belief(x, 0, 0), "0-999");
        x.setRule(2, 0);
        Edge.is("0 of 0", Check.belief(x, 0, 0), "10-20");
    }

    static void promise20NoLink() {
        PathTrust x = told(2, "probe b u 10 20;");
        x.link(0, 1, false);
        Edge.is("not linked", Check.belief(x, 0, 0), "0-999");
        Edge.is("its own one", Check.belief(x, 1, 0), "10-20");
        x.link(0, 1, true);
        Edge.is("linked again", Check.belief(x, 0, 0), "10-20");
    }

    static void promise20TheOwnOneFirst() {
        PathTrust x = told(2, "probe b u 10 20;");
        x.setTrust(0, 1, 10);
        x.probe(0, 0, 21, 30);
        x.setTrust(0, 1, 10);
        Edge.is("though b's is ahead in the list", Check.belief(x, 0, 0), "21-30");
    }

    static void promise20ThenTheGreatestTrust() {
        PathTrust x = told(3, "probe b u 10 20;probe c u 21 30;");
        x.setTrust(0, 2, 6);
        Edge.is("c, by 1", Check.belief(x, 0, 0), "21-30");
        x.setTrust(0, 1, 7);
        Edge.is("b, by 1", Check.belief(x, 0, 0), "10-20");
        x.setTrust(0, 1, 0);
        x.setTrust(0, 2, 10);
        Edge.is("c, by 10", Check.belief(x, 0, 0), "21-30");
    }

    /** b's report came via d by two hops, and c's by one. */
    private static PathTrust byHops() {
        PathTrust x = Edge.desk(4, 1, "link a d;link d b;link a c;probe b u 10 20;probe c u 21 30;");
        x.share(1);
        x.deliver(1);
        x.relay(3);
        x.share(2);
        x.deliver(100);
        Edge.is("the list", Check.list(x, 0), "1 3 2 0 0 10 20;2 2 1 0 0 21 30;");
        return x;
    }

    static void promise20ThenTheFewestHops() {
        Edge.is("c's, though its origin is greater", Check.belief(byHops(), 0, 0), "21-30");
    }

    static void promise20TrustBeforeHops() {
        PathTrust x = byHops();
        x.setTrust(0, 3, 6);
        Edge.is("b's, via d", Check.belief(x, 0, 0), "10-20");
    }

    static void promise20ThenOrigins() {
        PathTrust x = told(3, "probe b u 10 20;probe c u 21 30;");
        Edge.is("c's is ahead in the list", Check.list(x, 0), "2 2 1 0 0 21 30;1 1 1 0 0 10 20;");
        Edge.is("b's is taken", Check.belief(x, 0, 0), "10-20");
    }

    static void promise20SixReports() {
        PathTrust x = told(6, "probe a u 0 990;probe b u 10 980;probe c u 20 970;probe d u 30 960;probe e u 40 950;"
                + "probe f u 50 940;");
        Edge.is("all of them", Check.belief(x, 0, 0), "50-940");
        x.setRule(2, 7);
        Edge.is("the own one", Check.belief(x, 0, 0), "0-990");
    }

    // Promises 21 and 22.

    static void promise21AgentsAndWays() {
        Edge.agents((x, agent) -> x.sources(agent, 0));
        Edge.ways((x, way) -> x.sources(0, way));
        Edge.asks(x -> x.sources(0, 0));
    }

    static void promise21None() {
        Edge.is("no reports", Edge.desk(1, 1, "").sources(0, 0), 0);
        PathTrust x = told(2, "probe b u 10 20;");
        x.setRule(2, 10);
        Edge.is("left out", x.sources(0, 0), 0);
    }

    static void promise21AllSix() {
        PathTrust x = Edge.crowded();
        Edge.is("each way", x.sources(0, 0) + " " + x.sources(0, 5), "63 63");
        x.forget(0, 0);
        Edge.is("forgotten", x.sources(0, 0) + " " + x.sources(0, 5), "0 63");
    }

    static void promise21OneNumberInCommon() {
        Edge.is("one", told(2, "probe a u 1 5;probe b u 5 9;").sources(0, 0), 3);
        Edge.is("none", told(2, "probe a u 1 5;probe b u 6 9;").sources(0, 0), 1);
    }

    static void promise22AgentsAndWays() {
        Edge.agents((x, agent) -> x.contradicted(agent, 0));
        Edge.ways((x, way) -> x.contradicted(0, way));
        Edge.asks(x -> x.contradicted(0, 0));
    }

    static void promise22None() {
        Edge.is("no reports", Edge.desk(1, 1, "").contradicted(0, 0), 0);
        Edge.is("all are taken", Edge.crowded().contradicted(0, 5), 0);
        PathTrust x = told(2, "probe a u 1 5;probe b u 6 9;");
        x.setRule(2, 10);
        Edge.is("left out", x.contradicted(0, 0), 0);
    }

    static void promise22AllOthers() {
        PathTrust x = told(6, "probe a u 500 500;probe b u 0 499;probe c u 501 999;probe d u 0 0;probe e u 999 999;"
                + "probe f u 499 499;");
        Edge.is("of u", x.contradicted(0, 0) + " " + x.sources(0, 0), "62 1");
        Edge.is("of v", x.contradicted(0, 1) + " " + x.sources(0, 1), "0 0");
    }

    static void promise22OneNumberInCommon() {
        Edge.is("one", told(2, "probe a u 5 9;probe b u 1 5;").contradicted(0, 0), 0);
        Edge.is("none", told(2, "probe a u 5 9;probe b u 1 4;").contradicted(0, 0), 2);
    }

    static void promise22ItChangesNothing() {
        // d's has a number in common with b's, and none with c's, which is contradicted.
        PathTrust x = told(4, "probe b u 10 20;probe c u 21 30;probe d u 20 20;");
        Edge.is(Check.belief(x, 0, 0) + " " + x.sources(0, 0) + " " + x.contradicted(0, 0), "20-20 10 4");
    }

    // Promises 23 and 24.

    static void promise23AgentsAndWays() {
        Edge.agents((x, agent) -> x.majority(agent, 0));
        Edge.ways((x, way) -> x.majority(0, way));
        Edge.asks(x -> x.majority(0, 0));
    }

    static void promise23None() {
        Edge.is("no reports", Edge.desk(1, 1, "").majority(0, 0), 0);
        PathTrust x = told(3, "probe b u 10 20;probe c u 10 20;");
        x.setRule(2, 6);
        Edge.is("all left out", x.majority(0, 0), 0);
        x.setTrust(0, 2, 6);
        Edge.is("all but one left out", x.majority(0, 0), 4);
    }

    static void promise23AllSix() {
        Edge.is(Edge.crowded().majority(0, 5), 63);
    }

    static void promise23OneNumberInCommon() {
        Edge.is("one", told(3, "probe b u 10 20;probe c u 20 30;").majority(0, 0), 6);
        Edge.is("none", told(3, "probe b u 10 20;probe c u 21 30;").majority(0, 0), 2);
        PathTrust row = told(4, "probe b u 10 20;probe c u 20 30;probe d u 30 40;");
        Edge.is("each with the next one", row.majority(0, 0), 6);
        Edge.is("three", told(4, "probe b u 10 20;probe c u 20 30;probe d u 0 20;").majority(0, 0), 14);
    }

    static void promise23TheLeastOfSeveralSets() {
        PathTrust x = told(6, "probe b u 1 1;probe c u 1 1;probe d u 0 0;probe e u 0 0;");
        Edge.is("b c is 6, d e is 24", x.majority(0, 0), 6);
        x = told(6, "probe a u 0 0;probe e u 0 0;probe b u 1 1;probe d u 1 1;");
        Edge.is("b d is 10, a e is 17", x.majority(0, 0), 10);
        x = told(6, "probe f u 5 5;probe e u 6 6;probe d u 4 4;");
        Edge.is("of one each", x.majority(0, 0), 8);
    }

    static void promise23WhateverTheOrderOfTheList() {
        PathTrust x = Edge.desk(3, 1, Edge.star(3, 5) + "probe b u 1 5;probe c u 6 9;");
        x.share(1);
        x.share(2);
        x.deliver(2);
        Edge.is("b's is ahead", x.majority(0, 0) + " " + bounds(x), "2 1 5");
        x.forget(0, 0);
        x.share(2);
        x.share(1);
        x.deliver(2);
        Edge.is("c's is ahead", x.majority(0, 0) + " " + bounds(x), "2 1 5");
    }

    static void promise23TheMostBeforeTheLeast() {
        PathTrust x = told(6, "probe a u 1 1;probe b u 1 1;probe d u 0 0;probe e u 0 0;probe f u 0 0;");
        Edge.is("a b is 3, d e f is 56", x.majority(0, 0), 56);
    }

    static void promise24AgentsAndWays() {
        Edge.agents((x, agent) -> x.majorityBound(agent, 0, 0));
        Edge.ways((x, way) -> x.majorityBound(0, way, 0));
    }

    static void promise24Ends() {
        Edge.range(0, 1, (x, end) -> x.majorityBound(0, 0, end));
        Edge.asks(x -> x.majorityBound(0, 0, 1));
    }

    static void promise24IndexesFirst() {
        Edge.refuses("agent and end", Edge::busy, Check.INDEX, x -> x.majorityBound(3, 0, 2));
        Edge.refuses("way and end", Edge::busy, Check.INDEX, x -> x.majorityBound(0, 2, 2));
    }

    private static String bounds(PathTrust x) {
        return x.majorityBound(0, 0, 0) + " " + x.majorityBound(0, 0, 1);
    }

    static void promise24None() {
        Edge.is("no reports", bounds(Edge.desk(1, 1, "")), "-1 -1");
        PathTrust x = told(2, "probe b u 10 20;");
        x.setRule(2, 6);
        Edge.is("all left out", bounds(x), "-1 -1");
        Edge.refuses("and a wrong end", () -> Edge.desk(1, 1, ""), Check.ARGUMENT, y -> y.majorityBound(0, 0, 2));
    }

    static void promise24OneNumberInCommon() {
        Edge.is("20", bounds(told(3, "probe b u 10 20;probe c u 20 30;")), "20 20");
        Edge.is("of two sets that of the least one", bounds(told(3, "probe b u 10 20;probe c u 21 30;")), "10 20");
    }

    static void promise24BehindAQuestionOfAnotherWay() {
        PathTrust x = told(4, "probe b u 10 20;probe c u 10 20;probe b v 500 500;probe c v 500 500;probe d v 500 500;");
        Edge.is("three reports", x.majorityBound(0, 1, 0) + " " + x.majority(0, 1), "500 14");
        Edge.is("two reports, of less", bounds(x) + " " + x.majority(0, 0), "10 20 6");
        x = told(4, "probe b u 710 720;probe c u 710 720;probe b v 500 500;probe c v 500 500;probe d v 500 500;");
        Edge.is("three reports", x.majorityBound(0, 1, 1) + " " + x.majority(0, 1), "500 14");
        Edge.is("two reports, of more", bounds(x) + " " + x.majority(0, 0), "710 720 6");
    }

    static void promise24WhateverTheOrderOfTheList() {
        String probes = "probe b u 10 20;probe c u 0 19;probe d u 11 999;";
        PathTrust x = told(4, probes);
        Edge.is("d's is ahead", bounds(x), "11 19");
        x = Edge.desk(4, 1, Edge.star(4, 5) + probes);
        for (int agent : new int[] {2, 3, 1}) {
            x.share(agent);
        }
        x.deliver(3);
        Edge.is("c's is ahead", bounds(x), "11 19");
    }

    static void promise24ZeroAndNineHundredNinetyNine() {
        Edge.is("as they were told", bounds(told(2, "probe b u 0 999;")), "0 999");
        PathTrust x = told("rules drift 20 slack 50 least 0 age 99 hops 1;", 3, 5, "probe b u 5 5;probe c u 990 999;");
        Edge.is("5 and 250", bounds(x), "0 255");
        x.pass(99);
        Edge.is("moved to the ends", bounds(x), "0 999");
    }

    // Promise 25.

    static void promise25Agents() {
        Edge.agents((x, agent) -> x.best(agent, 0));
    }

    static void promise25Rules() {
        Edge.range(0, 2, (x, rule) -> x.best(0, rule));
        Edge.asks(x -> x.best(0, 2));
    }

    static void promise25IndexesFirst() {
        Edge.refuses("agent and rule", Edge::busy, Check.INDEX, x -> x.best(3, 3));
    }

    private static String best(PathTrust x) {
        return x.best(0, 0) + " " + x.best(0, 1) + " " + x.best(0, 2);
    }

    static void promise25NoWays() {
        Edge.is(best(Edge.desk(1, 0, "")), "-1 -1 -1");
        Edge.refuses("and a wrong rule", () -> Edge.desk(1, 0, ""), Check.ARGUMENT, x -> x.best(0, 3));
    }

    static void promise25TheLowestOneOfSeveral() {
        Edge.is("nothing known", best(Edge.desk(1, 6, "")), "0 0 0");
        Edge.is("alike behind the first one", best(Edge.desk(1, 4, "probe a u 500 501;probe a v 3 7;probe a w 3 7;"
                + "probe a x 3 7;")), "1 1 1");
    }

    static void promise25LessByOne() {
        String probes = "probe a u 100 200;probe a v 100 200;probe a w 100 200;probe a x 100 200;probe a y 100 200;";
        Edge.is("high", best(Edge.desk(1, 6, probes + "probe a z 101 199;")), "5 0 0");
        Edge.is("low", best(Edge.desk(1, 6, probes + "probe a z 99 201;")), "0 5 0");
        Edge.is("sum", best(Edge.desk(1, 6, probes + "probe a z 99 200;")), "0 5 5");
    }

    static void promise25ZeroAndNineHundredNinetyNine() {
        Edge.is("0", best(Edge.desk(1, 2, "probe a v 0 0;")), "1 0 1");
        Edge.is("999", best(Edge.desk(1, 2, "probe a u 999 999;probe a v 0 999;")), "0 1 1");
    }

    // Promises 26 and 27.

    static void promise26Agents() {
        Edge.agents((x, agent) -> x.rivals(agent));
        Edge.asks(x -> x.rivals(0));
    }

    static void promise26NoWays() {
        Edge.is("no way", Edge.desk(1, 0, "").rivals(0), 0);
        Edge.is("the best way alone", Edge.desk(1, 1, "").rivals(0), 0);
    }

    static void promise26AllOthers() {
        Edge.is("nothing known", Edge.desk(1, 6, "").rivals(0), 62);
        Edge.is("the last one is the best", Edge.desk(1, 6, "probe a z 5 998;").rivals(0), 31);
    }

    static void promise26LessThanTheHighBound() {
        String best = "probe a u 100 200;";
        Edge.is("199", Edge.desk(1, 2, best + "probe a v 199 999;").rivals(0), 2);
        Edge.is("200", Edge.desk(1, 2, best + "probe a v 200 999;").rivals(0), 0);
        Edge.is("201", Edge.desk(1, 2, best + "probe a v 201 999;").rivals(0), 0);
        Edge.is("the same high bound", Edge.desk(1, 2, best + "probe a v 200 200;").rivals(0), 0);
        Edge.is("a high bound of 0", Edge.desk(1, 2, "probe a u 0 0;").rivals(0), 0);
    }

    static void promise27Agents() {
        Edge.agents((x, agent) -> x.nextProbe(agent));
        Edge.asks(x -> x.nextProbe(0));
    }

    static void promise27NoRivals() {
        Edge.is("no way", Edge.desk(1, 0, "").nextProbe(0), NONE);
        Edge.is("one way", Edge.desk(1, 1, "").nextProbe(0), NONE);
        Edge.is("200 and 200", Edge.desk(1, 2, "probe a u 100 200;probe a v 200 999;").nextProbe(0), NONE);
        Edge.is("200 and 199", Edge.desk(1, 2, "probe a u 100 200;probe a v 199 999;").nextProbe(0), 1);
    }

    static void promise27TheLowestOneOfSeveral() {
        Edge.is("nothing known", Edge.desk(1, 6, "").nextProbe(0), 0);
        Edge.is("a rival, then the best one", Edge.desk(1, 2, "probe a u 101 201;probe a v 100 200;").nextProbe(0), 0);
        Edge.is("the best one, then a rival", Edge.desk(1, 2, "probe a u 100 200;probe a v 101 201;").nextProbe(0), 0);
        Edge.is("farther by one", Edge.desk(1, 2, "probe a u 100 200;probe a v 101 202;").nextProbe(0), 1);
    }

    static void promise27NoRivalIsNotAsked() {
        Edge.is(Edge.desk(1, 3, "probe a u 200 999;probe a v 100 200;probe a w 199 250;").nextProbe(0), 1);
    }

    static void promise27BoundsThatAreNotApart() {
        Edge.is(Edge.desk(1, 2, "probe a u 7 7;probe a v 6 9;").nextProbe(0), 1);
        Edge.is("0 of both", Edge.desk(1, 3, "probe a u 8 8;probe a v 7 7;").nextProbe(0), 2);
    }

    // Promise 28.

    static void promise28Agents() {
        Edge.agents((x, agent) -> x.regret(agent));
        Edge.asks(x -> x.regret(0));
    }

    static void promise28NoWays() {
        Edge.is(Edge.desk(1, 0, "").regret(0), NONE);
    }

    static void promise28ZeroToNineHundredNinetyNine() {
        Edge.is("nothing known", Edge.desk(1, 6, "").regret(0), 999);
        Edge.is("all known", Edge.desk(1, 2, "probe a u 7 7;probe a v 7 9;").regret(0), 0);
        Edge.is("999 less 0", Edge.desk(1, 2, "probe a u 999 999;").regret(0), 999);
        Edge.is("0 less 0", Edge.desk(1, 2, "probe a v 0 0;").regret(0), 0);
        Edge.is("another way by 1", Edge.desk(1, 2, "probe a u 7 7;probe a v 6 8;").regret(0), 1);
    }

    // Promise 29.

    static void promise29Agents() {
        Edge.agents((x, agent) -> x.saved(agent));
        Edge.asks(x -> x.saved(0));
    }

    static void promise29None() {
        Edge.is("no ways", Edge.desk(1, 0, "").saved(0), 0);
        Edge.is("nothing known", Edge.desk(1, 6, "").saved(0), 0);
        Edge.is("own ones", Edge.desk(1, 2, "probe a u 1 2;probe a v 3 4;").saved(0), 0);
        Edge.is("its own, though another one told more", told(2, "probe a u 1 9;probe b u 2 3;").saved(0), 0);
    }

    static void promise29OtherBoundsThanZeroAndNineHundredNinetyNine() {
        Edge.is("0 to 999", told(2, "probe b u 0 999;").saved(0), 0);
        Edge.is("0 to 998", told(2, "probe b u 0 998;").saved(0), 1);
        Edge.is("1 to 999", told(2, "probe b u 1 999;").saved(0), 1);
        PathTrust x = told(2, "probe b u 1 998;probe b v 2 997;");
        x.setRule(0, 1);
        x.pass(1);
        Edge.is("moved to 0 and 999, and to 1 and 998", x.saved(0), 1);
    }

    static void promise29AllSix() {
        PathTrust x = Edge.desk(2, 6, "link a b;");
        for (int way = 0; way < 6; way++) {
            x.probe(1, way, 1, 998);
        }
        x.share(1);
        x.deliver(100);
        Edge.is("six", x.saved(0), 6);
        x.setRule(2, 6);
        Edge.is("left out", x.saved(0), 0);
    }

    // Promise 30.

    static void promise30Agents() {
        Edge.agents((x, agent) -> x.agreeing(agent, 0));
        Edge.agents((x, other) -> x.agreeing(0, other));
        Edge.asks(x -> x.agreeing(0, 1));
    }

    static void promise30NoWays() {
        Edge.is(Edge.desk(2, 0, "").agreeing(0, 1), 0);
    }

    static void promise30OneNumberInCommon() {
        PathTrust x = Edge.desk(2, 2, "probe a u 10 20;probe b u 20 30;");
        Edge.is("20", x.agreeing(0, 1) + " " + x.agreeing(1, 0), "2 2");
        x = Edge.desk(2, 2, "probe a u 10 20;probe b u 21 30;");
        Edge.is("none", x.agreeing(0, 1) + " " + x.agreeing(1, 0), "1 1");
        x = Edge.desk(2, 2, "probe a u 10 20;probe b u 15 15;");
        Edge.is("within", x.agreeing(0, 1) + " " + x.agreeing(1, 0), "2 2");
    }

    static void promise30WithItself() {
        Edge.is("six ways", Edge.desk(1, 6, "probe a u 1 1;probe a v 9 9;").agreeing(0, 0), 6);
    }

    static void promise30NoWayAtAll() {
        Edge.is(Edge.desk(2, 1, "probe a u 1 1;probe b u 2 2;").agreeing(0, 1), 0);
    }

    // Promise 31.

    static void promise31Ways() {
        Edge.ways((x, way) -> x.common(way, 0));
    }

    static void promise31Ends() {
        Edge.range(0, 1, (x, end) -> x.common(0, end));
        Edge.asks(x -> x.common(0, 1));
    }

    static void promise31IndexesFirst() {
        Edge.refuses("way and end", Edge::busy, Check.INDEX, x -> x.common(2, 2));
    }

    private static String common(PathTrust x) {
        return x.common(0, 0) + " " + x.common(0, 1);
    }

    static void promise31NoOwnReport() {
        Edge.is("no agents", common(Edge.desk(0, 1, "")), "-1 -1");
        Edge.is("no reports", common(Edge.desk(6, 1, "")), "-1 -1");
        PathTrust x = told(2, "probe b u 10 20;");
        x.forget(1, 0);
        Edge.is("a report that is not its own", x.reports(0) + " " + common(x), "1 -1 -1");
        Edge.refuses("and a wrong end", () -> Edge.desk(1, 1, ""), Check.ARGUMENT, y -> y.common(0, -1));
    }

    static void promise31OneNumberWithinAll() {
        Edge.is("20", common(Edge.desk(3, 1, "probe a u 10 20;probe b u 20 30;probe c u 0 999;")), "20 20");
        Edge.is("none", common(Edge.desk(3, 1, "probe a u 10 20;probe b u 21 30;probe c u 0 999;")), "-1 -1");
        Edge.is("two of each two, none of all", common(Edge.desk(2, 1, "probe a u 1 1;probe b u 0 0;")), "-1 -1");
    }

    static void promise31AllSix() {
        PathTrust x = Edge.desk(6, 1, "probe a u 0 995;probe b u 1 999;probe c u 2 998;probe d u 0 999;probe e u 3 996;"
                + "probe f u 2 997;");
        Edge.is(common(x), "3 995");
        x.forget(4, 0);
        Edge.is("without e", common(x), "2 995");
    }

    static void promise31EachMovedByItsAge() {
        PathTrust x = Edge.desk("rules drift 2 slack 50 least 10 age 99 hops 1;", 2, 1, "probe a u 100 110;");
        x.pass(3);
        x.probe(1, 0, 116, 130);
        Edge.is("94 to 116, and 116 to 130", common(x), "116 116");
        x.probe(1, 0, 117, 130);
        Edge.is("94 to 116, and 117 to 130", common(x), "-1 -1");
        x.pass(1);
        Edge.is("92 to 118, and 115 to 132", common(x), "115 118");
    }

    static void promise31ZeroAndNineHundredNinetyNine() {
        PathTrust x = Edge.desk("rules drift 1 slack 0 least 0 age 99 hops 1;", 1, 1, "probe a u 2 997;");
        Edge.is("as told", common(x), "2 997");
        x.pass(1);
        Edge.is("before", common(x), "1 998");
        x.pass(1);
        Edge.is("at it", common(x), "0 999");
        x.pass(97);
        Edge.is("and not more, as in sections 2 and 3", common(x), "0 999");
    }
}
