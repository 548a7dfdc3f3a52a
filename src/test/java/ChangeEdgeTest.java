/** The edges of promises 42 to 53: probes, messages, time, links, trust, rules, and what leaves the lists. */
public final class ChangeEdgeTest {
    public static void main(String[] args) throws Exception {
        Edge.runAll(ChangeEdgeTest.class);
    }

    /** Three agents that are all linked. */
    private static PathTrust triangle(String probes) {
        return Edge.desk(3, 2, "link a b;link a c;link b c;" + probes);
    }

    // Promise 42, and the judging of section 2.

    static void promise42AgentsAndWays() {
        Edge.agents((x, agent) -> x.probe(agent, 0, 0, 999));
        Edge.ways((x, way) -> x.probe(0, way, 0, 999));
    }

    static void promise42Low() {
        Edge.range(0, 999, (x, low) -> x.probe(0, 0, low, 999));
    }

    static void promise42HighFromLow() {
        Edge.range(0, 999, (x, high) -> x.probe(0, 0, 0, high));
        Edge.range(500, 999, (x, high) -> x.probe(0, 0, 500, high));
        Edge.range(999, 999, (x, high) -> x.probe(0, 0, 999, high));
        Edge.refuses("both above", Edge::busy, Check.ARGUMENT, x -> x.probe(0, 0, 1000, 1000));
        Edge.refuses("both below", Edge::busy, Check.ARGUMENT, x -> x.probe(0, 0, -1, -1));
    }

    static void promise42IndexesFirst() {
        Edge.refuses("agent and low", Edge::busy, Check.INDEX, x -> x.probe(3, 0, -1, 5));
        Edge.refuses("way and high", Edge::busy, Check.INDEX, x -> x.probe(0, 2, 6, 5));
    }

    static void promise42OfThePresentTimeAtTheEnd() {
        PathTrust x = Edge.heard(5);
        x.pass(20);
        x.probe(0, 0, 0, 999);
        Edge.is("the first own one", Check.list(x, 0), "1 1 1 0 0 100 200;0 0 0 0 20 0 999;");
        x.probe(0, 1, 999, 999);
        x.probe(0, 0, 0, 0);
        Edge.is("in place of it", Check.list(x, 0), "1 1 1 0 0 100 200;0 0 0 1 20 999 999;0 0 0 0 20 0 0;");
    }

    static void promise42NothingToJudge() {
        PathTrust x = Edge.desk(1, 1, "");
        Edge.is("an empty list", x.probe(0, 0, 5, 5), 0);
        Edge.is("its own one is not judged", x.probe(0, 0, 9, 9), 0);
        Edge.is("a report of another way is not", Edge.heard(5).probe(0, 1, 0, 0), 0);
        Edge.is("no judging", x.account(0, 0) + " " + x.account(0, 3) + " " + x.account(0, 4), "2 0 0");
    }

    static void promise42OneNumberInBoth() {
        for (int[] bounds : new int[][] {{200, 999}, {0, 100}, {200, 200}, {100, 100}, {0, 999}, {150, 150}}) {
            PathTrust x = Edge.heard(5);
            Edge.is(bounds[0] + " to " + bounds[1], x.probe(0, 0, bounds[0], bounds[1]) + " " + x.trust(0, 1), "0 6");
        }
        for (int[] bounds : new int[][] {{201, 999}, {0, 99}, {201, 201}, {99, 99}, {0, 0}, {999, 999}}) {
            PathTrust x = Edge.heard(5);
            Edge.is(bounds[0] + " to " + bounds[1], x.probe(0, 0, bounds[0], bounds[1]) + " " + x.trust(0, 1), "1 3");
        }
    }

    static void promise42MovedByDriftTimesAge() {
        PathTrust x = Edge.heard(5);
        x.setRule(0, 3);
        x.setRule(1, 50);
        x.pass(4);
        Edge.is("212, and 200 + 12", x.probe(0, 0, 212, 300), 0);
        Edge.is("213", x.probe(0, 0, 213, 300), 1);
        Edge.is("88, and 100 - 12", x.probe(0, 0, 0, 88), 0);
        Edge.is("87", x.probe(0, 0, 0, 87), 1);
    }

    static void promise42TrustNotBelowZero() {
        int[] then = {0, 0, 0, 1};
        for (int trust = 0; trust < 4; trust++) {
            PathTrust x = Edge.heard(trust);
            Edge.is("from " + trust, x.probe(0, 0, 0, 0) + " " + x.trust(0, 1), "1 " + then[trust]);
        }
    }

    static void promise42TrustAtMostTen() {
        int[] then = {9, 10, 10};
        for (int trust = 8; trust < 11; trust++) {
            PathTrust x = Edge.heard(trust);
            Edge.is("from " + trust, x.probe(0, 0, 100, 100) + " " + x.trust(0, 1), "0 " + then[trust - 8]);
        }
    }

    static void promise42TheTrustOfTheOtherOneStays() {
        PathTrust x = Edge.heard(5);
        x.probe(0, 0, 0, 0);
        Edge.is("b's in a", x.trust(1, 0), 5);
    }

    static void promise42NothingHappensWithoutALink() {
        PathTrust x = Edge.heard(5);
        x.link(0, 1, false);
        Edge.is("a contradiction", x.probe(0, 0, 0, 0), 0);
        Edge.is("a confirmation", x.probe(0, 0, 100, 100), 0);
        Edge.is("trust and accounts", x.trust(0, 1) + " " + x.account(0, 3) + " " + x.account(0, 4), "-1 0 0");
        x.link(0, 1, true);
        Edge.is("linked again", x.probe(0, 0, 0, 0) + " " + x.trust(0, 1), "1 3");
    }

    static void promise42ThoughLeftOut() {
        PathTrust x = Edge.heard(5);
        x.setRule(2, 10);
        Edge.is(x.status(0, 0) + " " + x.probe(0, 0, 0, 0) + " " + x.trust(0, 1), "2 1 3");
    }

    static void promise42FiveContradictions() {
        PathTrust x = Edge.crowded();
        for (int agent = 1; agent < 6; agent++) {
            x.probe(agent, 5, 500 + agent, 500 + agent);
            x.pass(1);
            x.probe(agent, 5, 500 + agent, 500 + agent);
            x.share(agent);
        }
        x.forget(0, 5);
        x.deliver(100);
        Edge.is("none", x.probe(0, 5, 501, 505), 0);
        Edge.is("five", x.probe(0, 5, 506, 506), 5);
        Edge.is("four", x.probe(0, 5, 505, 506), 4);
    }

    /** Agent a has two reports of u via b: b's of 10, and then c's of 20. */
    private static PathTrust twoVia() {
        PathTrust x = Edge.desk(3, 1, Edge.chain(3) + "probe b u 10 10;probe c u 20 20;");
        x.share(1);
        x.share(2);
        x.deliver(3);
        x.relay(1);
        x.deliver(100);
        return x;
    }

    static void promise42InTheOrderOfTheList() {
        PathTrust x = twoVia();
        Edge.is("the list", Check.list(x, 0), "1 1 1 0 0 10 10;2 1 2 0 0 20 20;");
        x.setTrust(0, 1, 10);
        Edge.is("confirmed at 10, then contradicted", x.probe(0, 0, 10, 10) + " " + x.trust(0, 1), "1 8");
        x.setTrust(0, 1, 10);
        Edge.is("contradicted, then confirmed", x.probe(0, 0, 20, 20) + " " + x.trust(0, 1), "1 9");
        x.setTrust(0, 1, 1);
        Edge.is("confirmed, then contradicted from 2", x.probe(0, 0, 10, 10) + " " + x.trust(0, 1), "1 0");
        x.setTrust(0, 1, 1);
        Edge.is("contradicted at 1, then confirmed", x.probe(0, 0, 20, 20) + " " + x.trust(0, 1), "1 1");
    }

    // Promise 43, and the queue of section 2.

    static void promise43Agents() {
        Edge.agents((x, agent) -> x.share(agent));
    }

    static void promise43NothingToShare() {
        Edge.is("no reports", Edge.desk(2, 1, "link a b;").share(0), 0);
        Edge.is("no neighbors", Edge.desk(2, 1, "probe a u 1 2;").share(0), 0);
        PathTrust x = Edge.heard(5);
        Edge.is("no own ones", x.share(0) + " " + x.property(8), "0 0");
    }

    static void promise43AllNeighborsInAscendingOrder() {
        PathTrust x = Edge.desk(6, 2, "link c f;link c a;link e c;link c b;link d c;probe c v 1 2;probe c u 3 4;");
        Edge.is("messages", x.share(2), 10);
        Edge.is("each report to each neighbor", Check.queue(x), "2 0 2 1 1 0;2 1 2 1 1 0;2 3 2 1 1 0;2 4 2 1 1 0;"
                + "2 5 2 1 1 0;2 0 2 1 0 0;2 1 2 1 0 0;2 3 2 1 0 0;2 4 2 1 0 0;2 5 2 1 0 0;");
    }

    static void promise43AtMostAHundredMessages() {
        PathTrust x = triangle("probe a v 1 2;probe a u 1 2;");
        for (int i = 0; i < 24; i++) {
            Edge.is("room", x.share(0), 4);
        }
        x.lose();
        x.lose();
        x.lose();
        Edge.is("93", x.property(8), 93);
        Edge.is("to 97", x.share(0), 4);
        Edge.is("to 100", x.share(0) + " " + x.property(8), "3 100");
        Edge.is("the last ones", x.message(97, 4) + "" + x.message(97, 1) + " " + x.message(98, 4) + x.message(98, 1)
                + " " + x.message(99, 4) + x.message(99, 1), "11 12 01");
        Edge.is("no room", x.share(0) + " " + x.property(8), "0 100");
        x.lose();
        Edge.is("room for one", x.share(0) + " " + x.property(8), "1 100");
        Edge.is("the first one of the list", x.message(99, 4) + "" + x.message(99, 1), "11");
    }

    static void promise43OneHopIsAlwaysRight() {
        PathTrust x = triangle("probe a u 1 2;");
        x.setRule(4, 1);
        Edge.is(x.share(0) + " " + x.message(0, 3), "2 1");
    }

    static void promise43TooOldOnes() {
        PathTrust x = triangle("probe a u 1 2;");
        x.pass(20);
        x.setRule(3, 1);
        Edge.is(x.share(0) + " " + x.message(0, 5), "2 2");
    }

    // Promise 44.

    static void promise44Agents() {
        Edge.agents((x, agent) -> x.relay(agent));
    }

    static void promise44NothingToRelay() {
        Edge.is("no reports", Edge.desk(2, 1, "link a b;").relay(0), 0);
        Edge.is("no neighbors", Edge.desk(2, 1, "probe a u 1 2;").relay(0), 0);
        Edge.is("none but the origin", Edge.heard(5).relay(0), 0);
    }

    static void promise44FewerHopsThanTheRulesTell() {
        PathTrust x = Edge.desk(6, 1, Edge.chain(6) + "probe a u 1 2;");
        x.exchange(3);
        for (int hops = 1; hops < 4; hops++) {
            x.setRule(4, hops);
            for (int agent = 0; agent < 4; agent++) {
                Edge.is(agent + " hops of " + hops, x.relay(agent), agent < hops ? 1 : 0);
            }
        }
        Edge.is("a hop more", x.message(5, 0) + " " + x.message(5, 1) + " " + x.message(5, 3), "2 3 3");
    }

    static void promise44NotToTheOriginNorToTheOneViaWhichItCame() {
        PathTrust x = Edge.desk(4, 1, "link a b;link b c;link c a;link c d;probe a u 1 2;");
        x.share(0);
        x.deliver(1);
        x.lose();
        x.relay(1);
        x.deliver(1);
        Edge.is("c has a's via b", Check.list(x, 2), "0 1 2 0 0 1 2;");
        Edge.is("to d alone", x.relay(2) + " " + Check.queue(x), "1 2 3 0 3 0 0;");
    }

    static void promise44OwnOnesToAllNeighbors() {
        PathTrust x = Edge.desk(6, 1, Edge.star(6, 5) + "probe a u 1 2;");
        Edge.is(x.relay(0) + " " + x.message(0, 1) + " " + x.message(4, 1), "5 1 5");
    }

    static void promise44AtMostAHundredMessages() {
        PathTrust x = Edge.full();
        Edge.is("no room", x.relay(0) + " " + x.property(8), "0 100");
        x.lose();
        Edge.is("room for one", x.relay(0) + " " + x.relay(0) + " " + x.property(8), "1 0 100");
        PathTrust y = Edge.crowded();
        Edge.is("30 own ones, and 30 of the others to four", y.relay(0) + " " + y.property(8), "100 100");
    }

    // Promise 45, and the refusing and judging of section 2.

    static void promise45Many() {
        Edge.range(1, 100, (x, many) -> x.deliver(many));
    }

    static void promise45AnEmptyQueue() {
        PathTrust x = Edge.desk(2, 1, "link a b;");
        Edge.is("none", x.deliver(1) + " " + x.deliver(100), "0 0");
        Edge.is("it can be undone", x.undoCount(), 3);
    }

    static void promise45AFullQueue() {
        PathTrust x = Edge.full();
        Edge.is("99", x.deliver(99) + " " + x.property(8), "1 1");
        x.undo();
        Edge.is("100", x.deliver(100) + " " + x.property(8), "1 0");
        Edge.is("refused", x.account(1, 2), 99);
    }

    static void promise45AtMostThoseThatThereAre() {
        PathTrust x = triangle("probe a u 1 2;");
        x.share(0);
        Edge.is("two of 100", x.deliver(100) + " " + x.property(8), "2 0");
        x.undo();
        Edge.is("one of one", x.deliver(1) + " " + x.property(8) + " " + x.message(0, 1), "1 1 2");
        Edge.is("one of two", x.deliver(2) + " " + x.property(8), "1 0");
    }

    static void promise45RefusedWithoutALink() {
        PathTrust x = triangle("probe a u 1 2;");
        x.share(0);
        x.link(0, 1, false);
        Edge.is(x.deliver(2) + " " + x.reports(1) + " " + x.reports(2) + " " + x.account(1, 2), "1 0 1 1");
    }

    static void promise45RefusedIfOlderThanTheAge() {
        PathTrust x = triangle("probe a u 1 2;");
        x.share(0);
        x.pass(20);
        Edge.is("20 of 20", x.deliver(1) + " " + x.reports(1), "1 1");
        x.pass(1);
        Edge.is("21 of 20", x.deliver(1) + " " + x.reports(2) + " " + x.account(2, 2), "0 0 1");
    }

    static void promise45RefusedIfItHasTheSame() {
        PathTrust x = triangle("probe a u 1 2;");
        x.share(0);
        x.share(0);
        Edge.is("the first two", x.deliver(2), 2);
        x.link(0, 1, false);
        x.link(0, 1, true);
        Edge.is("the others", x.deliver(2) + " " + x.account(1, 2) + " " + x.account(2, 2), "0 1 1");
    }

    static void promise45FewerHopsComeToTheEnd() {
        PathTrust x = triangle("probe a u 1 2;probe c v 3 4;");
        x.share(0);
        x.lose();
        x.deliver(1);
        x.relay(2);
        x.deliver(100);
        Edge.is("two hops, and c's", Check.list(x, 1), "2 2 1 1 0 3 4;0 2 2 0 0 1 2;");
        x.share(2);
        x.deliver(100);
        Edge.is("the same hops are refused", Check.list(x, 1), "2 2 1 1 0 3 4;0 2 2 0 0 1 2;");
        x.share(0);
        Edge.is("one hop", x.deliver(1) + " " + Check.list(x, 1), "1 2 2 1 1 0 3 4;0 0 1 0 0 1 2;");
    }

    static void promise45JudgedByAnOwnOneAlone() {
        PathTrust x = triangle("probe a u 1 2;probe b v 8 9;probe c u 500 500;");
        x.share(2);
        x.deliver(1);
        x.share(0);
        x.deliver(100);
        Edge.is("b has no own one of u", x.trust(1, 0) + " " + x.trust(1, 2) + " " + x.account(1, 3) + " "
                + x.account(1, 4), "5 5 0 0");
        Edge.is("c has", x.trust(2, 0) + " " + x.account(2, 4), "3 1");
    }

    private static String judged(int trust, int low, int high) {
        PathTrust x = Edge.desk(2, 1, "link a b;probe a u 100 200;");
        x.setTrust(0, 1, trust);
        x.probe(1, 0, low, high);
        x.share(1);
        return x.deliver(1) + " " + x.trust(0, 1) + " " + x.account(0, 3) + " " + x.account(0, 4);
    }

    static void promise45OneNumberInBoth() {
        Edge.is("200", judged(5, 200, 300), "1 6 1 0");
        Edge.is("201", judged(5, 201, 300), "1 3 0 1");
        Edge.is("100", judged(5, 0, 100), "1 6 1 0");
        Edge.is("99", judged(5, 0, 99), "1 3 0 1");
    }

    static void promise45TrustFromZeroToTen() {
        Edge.is("0", judged(0, 0, 0), "1 0 0 1");
        Edge.is("1", judged(1, 0, 0), "1 0 0 1");
        Edge.is("2", judged(2, 0, 0), "1 0 0 1");
        Edge.is("3", judged(3, 0, 0), "1 1 0 1");
        Edge.is("8", judged(8, 100, 100), "1 9 1 0");
        Edge.is("9", judged(9, 100, 100), "1 10 1 0");
        Edge.is("10", judged(10, 100, 100), "1 10 1 0");
    }

    private static int moved(int drift, int own, int other, int low) {
        PathTrust x = Edge.desk("rules drift " + drift + " slack 50 least 10 age 99 hops 1;", 2, 1,
                "link a b;probe a u 100 200;");
        x.pass(own - other);
        x.probe(1, 0, low, 999);
        x.share(1);
        x.pass(other);
        x.deliver(1);
        return x.account(0, 3) - x.account(0, 4);
    }

    static void promise45BothMovedByDriftTimesTheirAge() {
        Edge.is("200 + 2 * 5, 216 - 2 * 3", moved(2, 5, 3, 216), 1);
        Edge.is("200 + 2 * 5, 217 - 2 * 3", moved(2, 5, 3, 217), -1);
        Edge.is("no drift, 200", moved(0, 99, 1, 200), 1);
        Edge.is("no drift, 201", moved(0, 99, 1, 201), -1);
        Edge.is("to 999 at most, and to 0", moved(20, 99, 1, 999), 1);
    }

    // Promise 46.

    static void promise46AnEmptyQueue() {
        Edge.refuses("no messages", () -> Edge.desk(2, 1, "link a b;"), Check.STATE, x -> x.lose());
        Edge.refuses("before the first load()", PathTrust::new, Check.STATE, x -> x.lose());
    }

    static void promise46UntilItIsEmpty() {
        PathTrust x = triangle("probe a u 1 2;");
        x.share(0);
        Edge.is("the first one", x.lose() + " " + x.message(0, 1), "1 2");
        Edge.is("the last one", x.lose() + " " + x.property(8), "0 0");
        Check.fails("promise 46: behind the last one", x, Check.STATE, () -> x.lose());
        Edge.is("neither delivered nor refused", x.account(1, 1) + x.account(1, 2) + x.account(2, 1) + x.account(2, 2),
                0);
    }

    static void promise46AFullQueue() {
        PathTrust x = Edge.full();
        Edge.is(x.lose() + " " + x.lose() + " " + x.share(0), "99 98 1");
    }

    // Promise 47, and the rounds of section 3.

    static void promise47Rounds() {
        Edge.range(1, 6, (x, rounds) -> x.exchange(rounds));
    }

    static void promise47NoAgents() {
        PathTrust x = new PathTrust();
        Edge.is(x.exchange(1) + " " + x.exchange(6) + " " + x.undoCount(), "0 0 2");
    }

    static void promise47NoMessages() {
        Edge.is("no reports", Edge.desk(2, 1, "link a b;").exchange(6), 0);
        Edge.is("no links", Edge.desk(2, 1, "probe a u 1 2;").exchange(6), 0);
    }

    static void promise47NotRefusedOnesAlone() {
        PathTrust x = triangle("probe a u 1 2;");
        Edge.is("a tells both", x.exchange(1), 2);
        Edge.is("all is refused", x.exchange(1) + " " + x.account(1, 2) + " " + x.account(2, 2), "0 2 2");
    }

    static void promise47OneHopInARound() {
        PathTrust x = Edge.desk(6, 1, Edge.chain(6) + "probe a u 1 2;");
        Edge.is("a round", x.exchange(1) + " " + x.reports(1) + x.reports(2), "1 10");
        Edge.is("two more", x.exchange(2) + " " + x.reports(2) + x.reports(3) + x.reports(4), "2 110");
        Edge.is("no more hops", x.exchange(6) + " " + x.reports(4), "0 0");
    }

    static void promise47WhatWaitsIsDeliveredFirst() {
        PathTrust x = Edge.desk(2, 2, "link a b;probe a v 1 2;");
        x.share(0);
        x.forget(0, 1);
        x.probe(0, 0, 3, 4);
        Edge.is(x.exchange(1) + " " + Check.list(x, 1) + x.property(8), "2 0 0 1 1 0 1 2;0 0 1 0 0 3 4;0");
    }

    static void promise47AFullQueueHasNoRoomForRelays() {
        PathTrust x = Edge.full();
        x.probe(1, 0, 7, 7);
        Edge.is("the hundred", x.exchange(1) + " " + x.reports(0) + " " + x.property(8), "1 1 0");
        Edge.is("b's own one", x.exchange(1) + " " + x.reports(0), "1 2");
        PathTrust y = Edge.full();
        y.probe(1, 0, 7, 7);
        Edge.is("in two rounds", y.exchange(2) + " " + y.reports(0), "2 2");
    }

    static void promise47AsManyMessagesAsCanBe() {
        PathTrust x = Edge.crowded();
        // a relays first: six own ones to five, twelve of b and c and five of d to four, and the last one to b and c.
        Edge.is("a hundred", x.exchange(1), 100);
        Edge.is("b, d and f", x.reports(1) + " " + x.reports(3) + " " + x.reports(5), "24 24 29");
    }

    // Promise 48.

    static void promise48Ticks() {
        Edge.range(1, 99, (x, ticks) -> x.pass(ticks));
    }

    static void promise48OlderThanTheAge() {
        PathTrust x = triangle("probe a u 1 2;");
        Edge.is("19 of 20", x.pass(19) + " " + x.reports(0), "0 1");
        Edge.is("20 of 20", x.pass(1) + " " + x.reports(0), "0 1");
        Edge.is("21 of 20", x.pass(1) + " " + x.reports(0), "1 0");
        Edge.is("none is left", x.pass(99), 0);
    }

    static void promise48TheLeastAndTheGreatestAge() {
        PathTrust x = Edge.desk("rules drift 0 slack 0 least 0 age 1 hops 1;", 1, 1, "probe a u 1 2;");
        Edge.is("1 of 1", x.pass(1), 0);
        Edge.is("2 of 1", x.pass(1), 1);
        x = Edge.desk("rules drift 0 slack 0 least 0 age 99 hops 1;", 1, 1, "probe a u 1 2;");
        Edge.is("99 of 99", x.pass(99), 0);
        Edge.is("100 of 99", x.pass(1), 1);
    }

    static void promise48AllListsAndReports() {
        PathTrust x = Edge.crowded();
        x.pass(20);
        Edge.is("36 and 5 * 6", x.pass(1), 66);
        Edge.is("lists", x.reports(0) + " " + x.reports(5), "0 0");
    }

    static void promise48NoReports() {
        Edge.is("no agents", new PathTrust().pass(99), 0);
        Edge.is("no reports", Edge.desk(6, 6, "").pass(99), 0);
    }

    static void promise48MessagesStay() {
        PathTrust x = Edge.full();
        x.pass(99);
        Edge.is(x.property(8) + " " + x.deliver(100), "100 0");
    }

    static void promise48TheTimeGoesOn() {
        PathTrust x = Edge.desk(1, 1, "");
        for (int i = 0; i < 400; i++) {
            x.pass(99);
        }
        Edge.is("400 * 99", x.property(2), 39600);
        x.probe(0, 0, 1, 2);
        Edge.is("a probe", x.report(0, 0, 4), 39600);
        x.pass(20);
        Edge.is("not too old", x.reports(0), 1);
    }

    // Promise 49.

    static void promise49Agents() {
        Edge.refuses("agent", Edge::busy, Check.INDEX, x -> x.link(3, 1, true));
        Edge.agents((x, agent) -> x.link(agent, 1, true));
        Edge.agents((x, other) -> x.link(1, other, false));
    }

    static void promise49BothAreTheSame() {
        Edge.refuses("on", Edge::busy, Check.ARGUMENT, x -> x.link(0, 0, true));
        Edge.refuses("off", Edge::busy, Check.ARGUMENT, x -> x.link(2, 2, false));
    }

    static void promise49IndexesFirst() {
        Edge.refuses("no agent, and the same", Edge::busy, Check.INDEX, x -> x.link(3, 3, true));
        Edge.refuses("no agent, and the same", Edge::busy, Check.INDEX, x -> x.link(-1, -1, false));
    }

    static void promise49ThereIsNone() {
        PathTrust x = Edge.desk(6, 0, "");
        Edge.is("none to end", x.link(0, 5, false) + " " + x.property(9) + " " + x.trust(0, 5), "false 0 -1");
        Edge.is("a new one", x.link(5, 0, true) + " " + x.property(9) + " " + x.trust(0, 5) + " " + x.trust(5, 0),
                "false 1 5 5");
    }

    static void promise49ThereIsOne() {
        PathTrust x = Edge.desk(2, 0, "link a b trust 0;");
        x.setTrust(1, 0, 10);
        Edge.is("its trust stays", x.link(1, 0, true) + " " + x.trust(0, 1) + " " + x.trust(1, 0), "true 0 10");
        Edge.is("an end", x.link(1, 0, false) + " " + x.trust(0, 1) + " " + x.trust(1, 0), "true -1 -1");
        Edge.is("again", x.link(0, 1, true) + " " + x.trust(0, 1) + " " + x.trust(1, 0), "false 5 5");
    }

    static void promise49AllFifteen() {
        PathTrust x = Edge.desk(6, 0, "");
        int links = 0;
        for (int agent = 0; agent < 6; agent++) {
            for (int other = 0; other < agent; other++) {
                x.link(agent, other, true);
                links++;
                Edge.is("links", x.property(9), links);
            }
        }
        Edge.is("neighbors", x.neighbors(3), 55);
    }

    // Promise 50.

    static void promise50Agents() {
        Edge.agents((x, agent) -> x.setTrust(agent, 1, 0));
        Edge.agents((x, other) -> x.setTrust(1, other, 0));
    }

    static void promise50Trust() {
        Edge.range(0, 10, (x, trust) -> x.setTrust(0, 1, trust));
    }

    static void promise50NoLink() {
        Edge.refuses("never", Edge::busy, Check.STATE, x -> x.setTrust(0, 2, 5));
        Edge.refuses("itself", Edge::busy, Check.STATE, x -> x.setTrust(1, 1, 5));
        PathTrust x = Edge.busy();
        x.link(0, 1, false);
        Check.fails("promise 50: not any more", x, Check.STATE, () -> x.setTrust(0, 1, 5));
    }

    static void promise50TheOrderOfTheExceptions() {
        Edge.refuses("agent and trust", Edge::busy, Check.INDEX, x -> x.setTrust(3, 0, 11));
        Edge.refuses("other and trust", Edge::busy, Check.INDEX, x -> x.setTrust(0, -1, -1));
        Edge.refuses("trust and no link", Edge::busy, Check.ARGUMENT, x -> x.setTrust(0, 2, 11));
        Edge.refuses("trust and itself", Edge::busy, Check.ARGUMENT, x -> x.setTrust(0, 0, -1));
    }

    static void promise50ThePreviousOne() {
        PathTrust x = Edge.desk(2, 0, "link a b;");
        Edge.is("5, 0, 10, 10", x.setTrust(0, 1, 0) + " " + x.setTrust(0, 1, 10) + " " + x.setTrust(0, 1, 10) + " "
                + x.trust(0, 1), "5 0 10 10");
        Edge.is("of the other one", x.trust(1, 0), 5);
    }

    // Promise 51.

    static void promise51What() {
        Edge.range(0, 4, (x, what) -> x.setRule(what, 1));
        Edge.refuses("both", Edge::busy, Check.ARGUMENT, x -> x.setRule(5, -1));
        Edge.refuses("both", Edge::busy, Check.ARGUMENT, x -> x.setRule(-1, 100));
    }

    static void promise51Drift() {
        Edge.range(0, 20, (x, drift) -> x.setRule(0, drift));
    }

    static void promise51Slack() {
        Edge.range(0, 50, (x, slack) -> x.setRule(1, slack));
    }

    static void promise51Least() {
        Edge.range(0, 10, (x, least) -> x.setRule(2, least));
    }

    static void promise51Age() {
        Edge.range(1, 99, (x, age) -> x.setRule(3, age));
    }

    static void promise51Hops() {
        Edge.range(1, 3, (x, hops) -> x.setRule(4, hops));
    }

    static void promise51ThePreviousOne() {
        PathTrust x = new PathTrust();
        int[] first = {1, 2, 3, 50, 2};
        int[] greatest = {20, 50, 10, 99, 3};
        for (int what = 0; what < 5; what++) {
            Edge.is("before the first load()", x.setRule(what, greatest[what]), first[what]);
            Edge.is("then", x.setRule(what, 1), greatest[what]);
            Edge.is("now", x.property(3 + what), 1);
        }
    }

    static void promise51ReportsThatAreTooOldStayUntilTimePasses() {
        PathTrust x = Edge.desk(1, 1, "probe a u 1 2;");
        x.pass(20);
        x.setRule(3, 19);
        Edge.is("too old", x.reports(0) + " " + x.status(0, 0), "1 0");
        x.setRule(3, 21);
        Edge.is("not too old when time passes", x.pass(1) + " " + x.reports(0), "0 1");
        x.setRule(3, 1);
        Edge.is("too old when time passes", x.reports(0) + " " + x.pass(1) + " " + x.reports(0), "1 1 0");
    }

    // Promise 52.

    static void promise52AgentsAndWays() {
        Edge.agents((x, agent) -> x.forget(agent, 0));
        Edge.ways((x, way) -> x.forget(0, way));
    }

    static void promise52None() {
        PathTrust x = Edge.heard(5);
        Edge.is("of this way", x.forget(0, 1) + " " + x.reports(0), "0 1");
        Edge.is("an empty list", x.forget(2, 0), 0);
        Edge.is("they can be undone", x.undoCount(), 5);
    }

    static void promise52AllSix() {
        PathTrust x = Edge.crowded();
        Edge.is("the first way", x.forget(0, 0) + " " + x.reports(0), "6 30");
        Edge.is("the last way", x.forget(0, 5) + " " + x.reports(0), "6 24");
        Edge.is("what stays", x.report(0, 0, 3) + " " + x.report(0, 23, 3), "1 4");
        Edge.is("of others", x.reports(5), 6);
    }

    // Promise 53.

    static void promise53Agents() {
        Edge.agents((x, agent) -> x.cleanse(agent));
    }

    static void promise53None() {
        Edge.is("no reports", Edge.desk(1, 1, "").cleanse(0), 0);
        Edge.is("all taken", Edge.crowded().cleanse(0), 0);
        PathTrust x = Edge.desk(2, 1, "link a b;probe a u 1 5;probe b u 6 9;");
        x.share(1);
        x.deliver(1);
        x.setRule(2, 10);
        Edge.is("left out", x.cleanse(0) + " " + x.reports(0), "0 2");
        x.setRule(2, 0);
        Edge.is("contradicted", x.cleanse(0) + " " + x.reports(0), "1 1");
        Edge.is("not any more", x.cleanse(0), 0);
    }

    static void promise53OneNumberInCommon() {
        PathTrust x = Edge.desk(3, 1, Edge.star(3, 5) + "probe a u 10 20;probe b u 20 30;probe c u 0 9;");
        x.share(1);
        x.share(2);
        x.deliver(2);
        Edge.is(x.cleanse(0) + " " + Check.list(x, 0), "1 0 0 0 0 0 10 20;1 1 1 0 0 20 30;");
    }

    static void promise53AsItIsNow() {
        // c's is contradicted by b's, and is not behind cleansing: but it left, as both are seen at once.
        PathTrust x = Edge.desk(4, 1, Edge.star(4, 5) + "probe b u 10 20;probe c u 21 30;probe d u 31 40;");
        x.share(1);
        x.share(2);
        x.share(3);
        x.deliver(3);
        Edge.is("c's and d's", x.cleanse(0) + " " + Check.list(x, 0), "2 1 1 1 0 0 10 20;");
    }

    static void promise53AllWaysAndAllOthers() {
        PathTrust x = Edge.desk(6, 6, Edge.star(6, 5));
        for (int agent = 0; agent < 6; agent++) {
            for (int way = 0; way < 6; way++) {
                x.probe(agent, way, 100 * agent, 100 * agent + 99);
            }
            x.share(agent);
            x.deliver(100);
        }
        Edge.is(x.reports(0) + " " + x.cleanse(0) + " " + x.reports(0), "36 30 6");
    }
}
