/** The edges of promises 9 to 19 and 32 to 34: properties, trust, ways from agent to agent, reports, messages. */
public final class AgentsEdgeTest {
    private static final int NONE = PathTrust.NONE;

    public static void main(String[] args) throws Exception {
        Edge.runAll(AgentsEdgeTest.class);
    }

    /** Six agents, each one linked with each other one. */
    private static PathTrust allLinked() {
        StringBuilder links = new StringBuilder();
        for (char one = 'a'; one < 'f'; one++) {
            for (char other = (char) (one + 1); other <= 'f'; other++) {
                links.append("link ").append(one).append(' ').append(other).append(';');
            }
        }
        return Edge.desk(6, 6, links.toString());
    }

    // Promise 9.

    static void promise09What() {
        Edge.range(0, 9, (x, what) -> x.property(what));
        Edge.asks(x -> x.property(9));
    }

    static void promise09Nothing() {
        PathTrust x = Edge.desk(0, 0, "");
        Edge.is(x.property(0) + " " + x.property(1) + " " + x.property(2) + " " + x.property(8) + " " + x.property(9),
                "0 0 0 0 0");
    }

    static void promise09AsManyAsCanBe() {
        PathTrust x = allLinked();
        Edge.is("agents, ways, links", x.property(0) + " " + x.property(1) + " " + x.property(9), "6 6 15");
        Edge.is("messages", Edge.full().property(8), 100);
    }

    static void promise09TheLeastAndTheGreatestRules() {
        PathTrust x = Edge.desk("rules drift 0 slack 0 least 0 age 1 hops 1;", 0, 0, "");
        Edge.is("least", x.property(3) + " " + x.property(4) + " " + x.property(5) + " " + x.property(6) + " "
                + x.property(7), "0 0 0 1 1");
        x = Edge.desk("rules drift 20 slack 50 least 10 age 99 hops 3;", 0, 0, "");
        Edge.is("greatest", x.property(3) + " " + x.property(4) + " " + x.property(5) + " " + x.property(6) + " "
                + x.property(7), "20 50 10 99 3");
    }

    // Promise 10.

    static void promise10Agents() {
        Edge.agents((x, agent) -> x.trust(agent, 1));
        Edge.agents((x, other) -> x.trust(1, other));
        Edge.asks(x -> x.trust(0, 1));
    }

    static void promise10NoLink() {
        PathTrust x = Edge.desk(3, 0, "link a b trust 0;");
        Edge.is("no link", x.trust(0, 2) + " " + x.trust(2, 0), "-1 -1");
        Edge.is("with itself", x.trust(0, 0) + " " + x.trust(2, 2), "-1 -1");
        Edge.is("a link without trust", x.trust(0, 1) + " " + x.trust(1, 0), "0 0");
        x.link(0, 1, false);
        Edge.is("a link that ended", x.trust(0, 1) + " " + x.trust(1, 0), "-1 -1");
    }

    static void promise10LastAgents() {
        PathTrust x = Edge.desk(6, 0, "link f a trust 10;link e f trust 9;");
        Edge.is(x.trust(5, 0) + " " + x.trust(0, 5) + " " + x.trust(4, 5) + " " + x.trust(5, 5), "10 10 9 -1");
    }

    // Promise 11.

    static void promise11Agents() {
        Edge.agents((x, agent) -> x.neighbors(agent));
        Edge.asks(x -> x.neighbors(1));
    }

    static void promise11NoNeighbors() {
        Edge.is("among others", Edge.desk(3, 0, "link a b;").neighbors(2), 0);
        Edge.is("alone", Edge.desk(1, 0, "").neighbors(0), 0);
    }

    static void promise11AllOthersAreNeighbors() {
        PathTrust x = allLinked();
        Edge.is("agent 0", x.neighbors(0), 62);
        Edge.is("agent 5", x.neighbors(5), 31);
    }

    static void promise11ANeighborWithoutTrust() {
        Edge.is(Edge.desk(2, 0, "link a b trust 0;").neighbors(0), 2);
    }

    // Promise 12.

    static void promise12Agents() {
        Edge.agents((x, agent) -> x.distance(agent, 1));
        Edge.agents((x, other) -> x.distance(1, other));
        Edge.asks(x -> x.distance(0, 2));
    }

    static void promise12TheSame() {
        PathTrust x = Edge.desk(6, 0, "link a b;");
        Edge.is("with a link, and without one", x.distance(0, 0) + " " + x.distance(5, 5), "0 0");
    }

    static void promise12FiveLinks() {
        PathTrust x = Edge.desk(6, 0, Edge.chain(6));
        Edge.is("a chain", x.distance(0, 5) + " " + x.distance(5, 0) + " " + x.distance(0, 4), "5 5 4");
        x.link(5, 0, true);
        Edge.is("a ring", x.distance(0, 5) + " " + x.distance(0, 3) + " " + x.distance(4, 0), "1 3 2");
    }

    static void promise12NotReached() {
        PathTrust x = Edge.desk(6, 0, Edge.chain(6));
        x.link(2, 3, false);
        Edge.is(x.distance(0, 5) + " " + x.distance(3, 2) + " " + x.distance(0, 2) + " " + x.distance(5, 3),
                "-1 -1 2 2");
    }

    static void promise12WhateverTheTrust() {
        Edge.is(Edge.desk(3, 0, "link a b trust 0;link b c trust 0;").distance(0, 2), 2);
    }

    // Promise 13.

    static void promise13Agents() {
        Edge.agents((x, agent) -> x.bottleneck(agent, 1));
        Edge.agents((x, other) -> x.bottleneck(1, other));
        Edge.asks(x -> x.bottleneck(0, 2));
    }

    static void promise13TheSameIsTen() {
        PathTrust x = Edge.desk(6, 0, "link a b trust 0;");
        Edge.is("with a link, and without one", x.bottleneck(0, 0) + " " + x.bottleneck(5, 5), "10 10");
    }

    static void promise13ZeroAndTen() {
        PathTrust x = Edge.desk(6, 0, Edge.chain(6));
        for (int agent = 0; agent < 5; agent++) {
            x.setTrust(agent, agent + 1, 10);
            x.setTrust(agent + 1, agent, 0);
        }
        Edge.is("onward, and back", x.bottleneck(0, 5) + " " + x.bottleneck(5, 0), "10 0");
        x.setTrust(4, 5, 9);
        Edge.is("onward, with one of 9", x.bottleneck(0, 5) + " " + x.bottleneck(0, 4), "9 10");
    }

    static void promise13NotReached() {
        PathTrust x = Edge.desk(3, 0, "link a b trust 10;");
        Edge.is(x.bottleneck(0, 2) + " " + x.bottleneck(2, 1), "-1 -1");
    }

    static void promise13TheGreatestOfSeveral() {
        PathTrust x = Edge.desk(6, 0, Edge.chain(6) + "link a f trust 4;");
        Edge.is("five links of 5", x.bottleneck(0, 5), 5);
        x.setTrust(2, 3, 4);
        Edge.is("alike", x.bottleneck(0, 5), 4);
        x.setTrust(2, 3, 3);
        Edge.is("one link of 4", x.bottleneck(0, 5), 4);
    }

    // Promise 14.

    static void promise14Agents() {
        Edge.agents((x, agent) -> x.mostTrusted(agent));
        Edge.asks(x -> x.mostTrusted(1));
    }

    static void promise14NoNeighbors() {
        Edge.is("among others", Edge.desk(3, 0, "link a b;").mostTrusted(2), NONE);
        Edge.is("alone", Edge.desk(1, 0, "").mostTrusted(0), NONE);
    }

    static void promise14TheLowestOneOfSeveral() {
        PathTrust x = allLinked();
        Edge.is("all alike", x.mostTrusted(0) + " " + x.mostTrusted(5), "1 0");
        x.setTrust(0, 5, 6);
        Edge.is("one more", x.mostTrusted(0), 5);
        x.setTrust(0, 3, 6);
        Edge.is("two alike", x.mostTrusted(0), 3);
        x.setTrust(0, 2, 10);
        x.setTrust(0, 4, 10);
        Edge.is("the greatest", x.mostTrusted(0), 2);
    }

    static void promise14ATrustOfZero() {
        Edge.is(Edge.desk(3, 0, "link a c trust 0;").mostTrusted(0), 2);
    }

    // Promise 15.

    static void promise15Agents() {
        Edge.agents((x, agent) -> x.reports(agent));
        Edge.asks(x -> x.reports(0));
    }

    static void promise15NoReports() {
        Edge.is(Edge.desk(2, 1, "link a b;probe b u 1 2;").reports(0), 0);
    }

    static void promise15AsManyAsCanBe() {
        PathTrust x = Edge.crowded();
        Edge.is("36", x.reports(0), 36);
        x.probe(0, 5, 1, 2);
        x.share(5);
        x.pass(1);
        x.probe(1, 0, 3, 4);
        x.share(1);
        x.deliver(100);
        Edge.is("still", x.reports(0), 36);
    }

    // Promise 16, and what section 2 says of a list.

    static void promise16Agents() {
        Edge.agents((x, agent) -> x.report(agent, 0, 0));
    }

    static void promise16Reports() {
        Edge.reports((x, index) -> x.report(0, index, 6));
        Edge.refuses("an empty list", () -> Edge.desk(1, 1, ""), Check.INDEX, x -> x.report(0, 0, 0));
        Edge.refuses("behind 36", () -> Edge.desk(1, 1, "probe a u 1 2;"), Check.INDEX, x -> x.report(0, 1, 0));
        Edge.is("the last one of 36", Check.list(Edge.crowded(), 0).endsWith(";5 5 1 5 0 0 999;"), true);
        PathTrust x = Edge.crowded();
        Edge.is("its way", x.report(0, 35, 3), 5);
        Check.fails("promise 16: 36 of 36", x, Check.INDEX, () -> x.report(0, 36, 0));
    }

    static void promise16What() {
        Edge.range(0, 6, (x, what) -> x.report(0, 0, what));
        Edge.asks(x -> x.report(0, 1, 6));
    }

    static void promise16IndexesFirst() {
        Edge.refuses("agent and what", Edge::busy, Check.INDEX, x -> x.report(3, 0, 7));
        Edge.refuses("report and what", Edge::busy, Check.INDEX, x -> x.report(0, 2, -1));
    }

    static void promise16AnOwnOneCameViaItselfByNoHops() {
        PathTrust x = Edge.desk(6, 6, "probe f z 7 8;");
        Edge.is(Check.list(x, 5), "5 5 0 5 0 7 8;");
    }

    static void promise16OneForEachOriginAndWay() {
        PathTrust x = Edge.desk(2, 2, "link a b;probe a u 1 2;probe a v 3 4;probe b u 5 6;probe a u 7 8;");
        Edge.is("of the same time, at the end", Check.list(x, 0), "0 0 0 1 0 3 4;0 0 0 0 0 7 8;");
        x.share(1);
        x.deliver(1);
        x.pass(1);
        x.probe(1, 0, 9, 10);
        x.share(1);
        x.probe(0, 1, 11, 12);
        Edge.is("another origin", Check.list(x, 0), "0 0 0 0 0 7 8;1 1 1 0 0 5 6;0 0 0 1 1 11 12;");
        x.deliver(1);
        Edge.is("a later one, at the end", Check.list(x, 0), "0 0 0 0 0 7 8;0 0 0 1 1 11 12;1 1 1 0 1 9 10;");
    }

    // Promise 17.

    static void promise17Agents() {
        Edge.agents((x, agent) -> x.status(agent, 0));
    }

    static void promise17Reports() {
        Edge.reports((x, index) -> x.status(0, index));
        Edge.refuses("an empty list", () -> Edge.desk(1, 1, ""), Check.INDEX, x -> x.status(0, 0));
        Edge.asks(x -> x.status(0, 1));
    }

    /** Agent a has its own report of 100 to 200 and one of b, which it trusts 5 before it judges. */
    private static PathTrust heard(int low, int high) {
        PathTrust x = Edge.desk(2, 1, "link a b;probe a u 100 200;");
        x.probe(1, 0, low, high);
        x.share(1);
        x.deliver(1);
        return x;
    }

    static void promise17OneNumberInCommon() {
        Edge.is("200 to 300", heard(200, 300).status(0, 1), 0);
        Edge.is("201 to 300", heard(201, 300).status(0, 1), 1);
        Edge.is("0 to 100", heard(0, 100).status(0, 1), 0);
        Edge.is("0 to 99", heard(0, 99).status(0, 1), 1);
        Edge.is("0 to 999", heard(0, 999).status(0, 1), 0);
    }

    static void promise17TheLeastTrust() {
        PathTrust x = heard(150, 150);
        Edge.is("the trust", x.trust(0, 1), 6);
        x.setRule(2, 5);
        Edge.is("6 of 5", x.status(0, 1), 0);
        x.setRule(2, 6);
        Edge.is("6 of 6", x.status(0, 1), 0);
        x.setRule(2, 7);
        Edge.is("6 of 7", x.status(0, 1), 2);
        x.setRule(2, 10);
        x.setTrust(0, 1, 10);
        Edge.is("10 of 10", x.status(0, 1), 0);
        x.setRule(2, 0);
        x.setTrust(0, 1, 0);
        Edge.is("0 of 0", x.status(0, 1), 0);
    }

    static void promise17NoLink() {
        PathTrust x = heard(150, 150);
        x.setRule(2, 0);
        x.link(0, 1, false);
        Edge.is("left out", x.status(0, 1), 2);
        Edge.is("but its own one", x.status(0, 0), 0);
        x.link(0, 1, true);
        Edge.is("linked again", x.status(0, 1), 0);
    }

    static void promise17AnOwnOneIsAlwaysTaken() {
        PathTrust x = Edge.desk("rules drift 0 slack 0 least 10 age 9 hops 1;", 1, 1, "probe a u 999 999;");
        Edge.is(x.status(0, 0), 0);
    }

    // Promise 18.

    static void promise18Agents() {
        Edge.agents((x, agent) -> x.moved(agent, 0, 0));
    }

    static void promise18Reports() {
        Edge.reports((x, index) -> x.moved(0, index, 1));
        Edge.refuses("an empty list", () -> Edge.desk(1, 1, ""), Check.INDEX, x -> x.moved(0, 0, 0));
    }

    static void promise18Ends() {
        Edge.range(0, 1, (x, end) -> x.moved(0, 0, end));
        Edge.asks(x -> x.moved(0, 1, 1));
    }

    static void promise18IndexesFirst() {
        Edge.refuses("agent and end", Edge::busy, Check.INDEX, x -> x.moved(-1, 0, 2));
        Edge.refuses("report and end", Edge::busy, Check.INDEX, x -> x.moved(0, 2, 2));
    }

    private static String moved(PathTrust x, int agent, int index) {
        return x.moved(agent, index, 0) + " " + x.moved(agent, index, 1);
    }

    static void promise18DriftTimesAge() {
        PathTrust x = Edge.desk("rules drift 20 slack 50 least 0 age 99 hops 3;", 1, 1, "probe a u 500 500;");
        Edge.is("new", moved(x, 0, 0), "500 500");
        x.pass(1);
        Edge.is("behind one tick", moved(x, 0, 0), "480 520");
        x.setRule(0, 5);
        x.pass(98);
        Edge.is("behind 99", moved(x, 0, 0), "5 995");
    }

    static void promise18ToZeroAndNineHundredNinetyNineAtMost() {
        PathTrust x = Edge.desk("rules drift 1 slack 0 least 0 age 99 hops 3;", 1, 1, "probe a u 3 996;");
        x.pass(2);
        Edge.is("before", moved(x, 0, 0), "1 998");
        x.pass(1);
        Edge.is("at it", moved(x, 0, 0), "0 999");
        x.pass(1);
        Edge.is("behind", moved(x, 0, 0), "0 999");
        x.setRule(0, 20);
        x.pass(95);
        Edge.is("far behind", moved(x, 0, 0), "0 999");
    }

    static void promise18SlackTimesTrustAndHops() {
        PathTrust x = Edge.desk("rules drift 0 slack 7 least 0 age 99 hops 3;", 4, 1, Edge.chain(4)
                + "probe a u 500 500;");
        x.exchange(3);
        Edge.is("no hop", moved(x, 0, 0), "500 500");
        Edge.is("1 hop, 7 * 5 * 1", moved(x, 1, 0), "465 535");
        Edge.is("2 hops, 7 * 5 * 2", moved(x, 2, 0), "430 570");
        Edge.is("3 hops, 7 * 5 * 3", moved(x, 3, 0), "395 605");
        x.setTrust(3, 2, 10);
        Edge.is("trust 10", moved(x, 3, 0), "500 500");
        x.setTrust(3, 2, 9);
        Edge.is("trust 9", moved(x, 3, 0), "479 521");
        x.setTrust(3, 2, 0);
        Edge.is("trust 0", moved(x, 3, 0), "290 710");
        x.setRule(1, 50);
        Edge.is("50 * 10 * 3", moved(x, 3, 0), "0 999");
        x.setRule(1, 0);
        Edge.is("no slack", moved(x, 3, 0), "500 500");
    }

    static void promise18NoLink() {
        PathTrust x = heard(150, 160);
        x.link(0, 1, false);
        Edge.is("b's", moved(x, 0, 1), "-1 -1");
        Edge.is("its own", moved(x, 0, 0), "100 200");
    }

    static void promise18WhateverItsStatus() {
        Edge.is("contradicted", moved(heard(300, 310), 0, 1), "300 310");
        PathTrust x = heard(300, 310);
        x.setRule(2, 10);
        Edge.is("left out", x.status(0, 1) + " " + moved(x, 0, 1), "2 300 310");
    }

    // Promise 19.

    static void promise19AgentsAndWays() {
        Edge.agents((x, agent) -> x.own(agent, 0));
        Edge.ways((x, way) -> x.own(0, way));
        Edge.asks(x -> x.own(0, 0));
    }

    static void promise19None() {
        PathTrust x = heard(150, 160);
        Edge.is("there is one", x.own(0, 0), 0);
        x.forget(0, 0);
        Edge.is("forgotten", x.own(0, 0), NONE);
        x.share(1);
        x.deliver(1);
        Edge.is("that of another one", x.reports(0) + " " + x.own(0, 0), "1 -1");
        Edge.is("an empty list", Edge.desk(1, 1, "").own(0, 0), NONE);
    }

    static void promise19TheLastIndex() {
        PathTrust x = Edge.crowded();
        Edge.is("at first", x.own(0, 0) + " " + x.own(0, 5), "0 5");
        x.probe(0, 0, 1, 2);
        Edge.is("at the end", x.own(0, 0) + " " + x.own(0, 5), "35 4");
    }

    // Promise 32.

    static void promise32Agents() {
        Edge.agents((x, agent) -> x.account(agent, 0));
    }

    static void promise32What() {
        Edge.range(0, 4, (x, what) -> x.account(0, what));
        Edge.asks(x -> x.account(0, 4));
    }

    static void promise32IndexesFirst() {
        Edge.refuses("agent and what", Edge::busy, Check.INDEX, x -> x.account(3, 5));
    }

    static void promise32SinceLoad() {
        PathTrust x = Edge.busy();
        Check.load(x, Edge.text(Edge.STILL, 6, 1, "probe f u 1 2;"));
        for (int agent = 0; agent < 6; agent++) {
            for (int what = 0; what < 5; what++) {
                Edge.is(agent + " " + what, x.account(agent, what), agent == 5 && what == 0 ? 1 : 0);
            }
        }
    }

    static void promise32RefusedAndNotRefused() {
        PathTrust x = Edge.full();
        Edge.is("deliver", x.deliver(100), 1);
        Edge.is("to b", x.account(1, 1) + " " + x.account(1, 2), "1 99");
        Edge.is("from a", x.account(0, 1) + " " + x.account(0, 2), "0 0");
    }

    static void promise32JudgedWithoutALink() {
        PathTrust x = heard(150, 160);
        Edge.is("confirmed", x.account(0, 3) + " " + x.account(0, 4), "1 0");
        x.link(0, 1, false);
        Edge.is("no contradiction", x.probe(0, 0, 900, 900), 0);
        x.probe(0, 0, 150, 150);
        Edge.is("nothing happens", x.account(0, 3) + " " + x.account(0, 4), "1 0");
    }

    static void promise32AtTheEndsOfTrust() {
        PathTrust x = heard(150, 160);
        x.setTrust(0, 1, 10);
        x.probe(0, 0, 150, 150);
        Edge.is("confirmed, though 10 is the most", x.trust(0, 1) + " " + x.account(0, 3), "10 2");
        x.setTrust(0, 1, 0);
        x.probe(0, 0, 900, 900);
        Edge.is("contradicted, though 0 is the least", x.trust(0, 1) + " " + x.account(0, 4), "0 1");
    }

    // Promise 33, and the reasons of section 2.

    static void promise33What() {
        Edge.range(0, 5, (x, what) -> x.message(0, what));
        Edge.asks(x -> x.message(2, 5));
    }

    static void promise33NoSuchMessage() {
        for (int index : new int[] {-1, 3, 100, Edge.LEAST, Edge.GREATEST}) {
            Edge.refuses("" + index, Edge::busy, Check.ELEMENT, x -> x.message(index, 0));
        }
        Edge.is("the last one", Edge.busy().message(2, 1), 1);
        Edge.refuses("an empty queue", () -> Edge.desk(1, 1, ""), Check.ELEMENT, x -> x.message(0, 0));
    }

    static void promise33AFullQueue() {
        PathTrust x = Edge.full();
        Edge.is("the last one", x.message(99, 0) + " " + x.message(99, 1), "0 1");
        Check.fails("promise 33: 100 of 100", x, Check.ELEMENT, () -> x.message(100, 0));
        x.lose();
        Check.fails("promise 33: 99 of 99", x, Check.ELEMENT, () -> x.message(99, 0));
    }

    static void promise33WhatFirst() {
        Edge.refuses("index and what", Edge::busy, Check.ARGUMENT, x -> x.message(3, 6));
        Edge.refuses("index and what", Edge::busy, Check.ARGUMENT, x -> x.message(-1, -1));
    }

    static void promise33Reason1NoLinkAnyMore() {
        PathTrust x = Edge.desk(2, 1, "link a b;probe a u 1 2;");
        x.share(0);
        Edge.is("linked", x.message(0, 5), 0);
        x.link(0, 1, false);
        Edge.is("not linked", x.message(0, 5), 1);
        x.link(0, 1, true);
        Edge.is("linked again", x.message(0, 5), 0);
    }

    static void promise33Reason2OlderThanTheAge() {
        PathTrust x = Edge.desk(2, 1, "link a b;probe a u 1 2;");
        x.share(0);
        x.pass(19);
        Edge.is("19 of 20", x.message(0, 5), 0);
        x.pass(1);
        Edge.is("20 of 20", x.message(0, 5), 0);
        x.pass(1);
        Edge.is("21 of 20", x.message(0, 5), 2);
        x.setRule(3, 21);
        Edge.is("21 of 21", x.message(0, 5), 0);
    }

    /** Three agents that are all linked; a told its probe of u to both of the others. */
    private static PathTrust triangle() {
        PathTrust x = Edge.desk(3, 2, "link a b;link a c;link b c;probe a u 1 2;");
        x.share(0);
        x.deliver(2);
        return x;
    }

    static void promise33Reason3TheSameTimeAndHops() {
        PathTrust x = triangle();
        x.share(0);
        Edge.is("1 hop, and it has 1", x.message(0, 3) + " " + x.message(0, 5), "1 3");
        x = triangle();
        x.relay(2);
        Edge.is("2 hops, and it has 1", Check.queue(x), "2 1 0 2 0 3;");
        x.forget(1, 0);
        x.deliver(1);
        x.relay(2);
        Edge.is("2 hops, and it has 2", Check.queue(x), "2 1 0 2 0 3;");
        x.lose();
        x.share(0);
        Edge.is("1 hop, and it has 2", x.message(0, 3) + " " + x.message(0, 5), "1 0");
    }

    static void promise33Reason3Later() {
        PathTrust x = Edge.desk(5, 1, "link a c;link c b;link a d;link d e;link e b;probe a u 1 2;");
        x.share(0);
        x.deliver(1);
        x.lose();
        x.pass(1);
        x.probe(0, 0, 3, 4);
        x.share(0);
        x.lose();
        x.deliver(1);
        x.relay(3);
        x.deliver(1);
        x.relay(4);
        x.deliver(1);
        Edge.is("b has a's later one, by 3 hops", Check.list(x, 1), "0 4 3 0 1 3 4;");
        x.relay(2);
        Edge.is("an earlier one, though by 2 hops", Check.queue(x), "2 1 0 2 0 3;");
    }

    static void promise33NoReasonForALaterOne() {
        PathTrust x = triangle();
        x.pass(1);
        x.probe(0, 0, 3, 4);
        x.share(0);
        x.lose();
        x.deliver(1);
        x.relay(2);
        Edge.is("a later one, though by 2 hops", Check.queue(x), "2 1 0 2 0 0;");
    }

    static void promise33NoReasonForAnotherOriginOrWay() {
        PathTrust x = triangle();
        x.probe(0, 1, 1, 2);
        x.probe(2, 0, 1, 2);
        x.forget(0, 0);
        x.share(0);
        Edge.is("another way", x.message(0, 4) + " " + x.message(0, 5), "1 0");
        x.share(2);
        Edge.is("another origin", x.message(3, 1) + " " + x.message(3, 2) + " " + x.message(3, 5), "1 2 0");
    }

    static void promise33TheFirstReasonThatApplies() {
        PathTrust x = triangle();
        x.setRule(3, 30);
        x.share(0);
        x.pass(21);
        Edge.is("3 alone", x.message(0, 5), 3);
        x.setRule(3, 20);
        Edge.is("2 and 3", x.message(0, 5), 2);
        x.link(0, 1, false);
        Edge.is("1, 2 and 3", x.message(0, 5), 1);
    }

    // Promise 34.

    static void promise34Agents() {
        Edge.agents((x, agent) -> x.standing(agent));
        Edge.asks(x -> x.standing(1));
    }

    static void promise34NoNeighbors() {
        Edge.is("among others", Edge.desk(3, 0, "link a b;").standing(2), 0.0f);
        Edge.is("alone", Edge.desk(1, 0, "").standing(0), 0.0f);
    }

    static void promise34ZeroAndTen() {
        PathTrust x = Edge.desk(2, 0, "link a b trust 0;");
        x.setTrust(0, 1, 10);
        Edge.is("in a", x.standing(0), 0.0f);
        Edge.is("in b", x.standing(1), 10.0f);
    }

    static void promise34NumbersThatAreNotWhole() {
        PathTrust x = Edge.desk(4, 0, Edge.star(4, 3));
        x.setTrust(2, 0, 4);
        Edge.is("10 / 3", x.standing(0), 10.0f / 3.0f);
        x.link(0, 3, false);
        Edge.is("7 / 2", x.standing(0), 3.5f);
    }

    static void promise34FiveNeighbors() {
        PathTrust x = Edge.desk(6, 0, Edge.star(6, 10));
        Edge.is("all 10", x.standing(0), 10.0f);
        x.setTrust(5, 0, 9);
        Edge.is("49 / 5", x.standing(0), 9.8f);
    }
}
