/** The edges of promises 35 to 41: what would be. */
public final class ForecastEdgeTest {
    private static final int NONE = PathTrust.NONE;

    public static void main(String[] args) throws Exception {
        Edge.runAll(ForecastEdgeTest.class);
    }

    private static String beliefIf(PathTrust x, int low, int high) {
        return x.beliefIf(0, 0, low, high, 0) + "-" + x.beliefIf(0, 0, low, high, 1);
    }

    // Promise 35.

    static void promise35AgentsAndWays() {
        Edge.agents((x, agent) -> x.beliefIf(agent, 0, 0, 999, 0));
        Edge.ways((x, way) -> x.beliefIf(0, way, 0, 999, 1));
    }

    static void promise35Low() {
        Edge.range(0, 999, (x, low) -> x.beliefIf(0, 0, low, 999, 0));
    }

    static void promise35HighFromLow() {
        Edge.range(0, 999, (x, high) -> x.beliefIf(0, 0, 0, high, 0));
        Edge.range(500, 999, (x, high) -> x.beliefIf(0, 0, 500, high, 0));
        Edge.range(999, 999, (x, high) -> x.beliefIf(0, 0, 999, high, 0));
        Edge.refuses("both above", Edge::busy, Check.ARGUMENT, x -> x.beliefIf(0, 0, 1000, 1000, 0));
        Edge.refuses("both below", Edge::busy, Check.ARGUMENT, x -> x.beliefIf(0, 0, -1, -1, 0));
    }

    static void promise35Ends() {
        Edge.range(0, 1, (x, end) -> x.beliefIf(0, 0, 5, 6, end));
        Edge.asks(x -> x.beliefIf(0, 0, 5, 6, 1));
    }

    static void promise35IndexesFirst() {
        Edge.refuses("agent and low", Edge::busy, Check.INDEX, x -> x.beliefIf(3, 0, -1, 5, 0));
        Edge.refuses("agent and high", Edge::busy, Check.INDEX, x -> x.beliefIf(-1, 0, 6, 5, 0));
        Edge.refuses("way and high", Edge::busy, Check.INDEX, x -> x.beliefIf(0, 2, 6, 1000, 0));
        Edge.refuses("way and end", Edge::busy, Check.INDEX, x -> x.beliefIf(0, -1, 5, 6, 2));
    }

    static void promise35ZeroAndNineHundredNinetyNine() {
        PathTrust x = Edge.desk(1, 1, "");
        Edge.is(beliefIf(x, 0, 0) + " " + beliefIf(x, 999, 999) + " " + beliefIf(x, 0, 999), "0-0 999-999 0-999");
    }

    static void promise35OneNumberInCommon() {
        Edge.is("200", beliefIf(Edge.heard(5), 200, 300), "200-200");
        Edge.is("201", beliefIf(Edge.heard(5), 201, 300), "201-300");
        Edge.is("100", beliefIf(Edge.heard(5), 0, 100), "100-100");
        Edge.is("99", beliefIf(Edge.heard(5), 0, 99), "0-99");
    }

    static void promise35InPlaceOfTheOwnOne() {
        PathTrust x = Edge.heard(5);
        x.probe(0, 0, 100, 110);
        Edge.is("now", Check.belief(x, 0, 0), "100-110");
        Edge.is("then", beliefIf(x, 120, 130), "120-130");
        Edge.is("still", Check.belief(x, 0, 0), "100-110");
    }

    static void promise35WithTheTrustThatItWouldHave() {
        PathTrust x = Edge.heard(5);
        x.setRule(1, 10);
        Edge.is("now, 10 * 5", Check.belief(x, 0, 0), "50-250");
        Edge.is("then, 10 * 4", beliefIf(x, 0, 200), "60-200");
        x.setRule(2, 6);
        Edge.is("left out now", Check.belief(x, 0, 0), "0-999");
        Edge.is("enough trust then", beliefIf(x, 0, 200), "60-200");
        x.setRule(2, 7);
        Edge.is("too little then, too", beliefIf(x, 0, 200), "0-200");
    }

    // Promise 36.

    static void promise36Agents() {
        Edge.agents((x, agent) -> x.trustIf(agent, 0, 0, 999, 1));
        Edge.agents((x, other) -> x.trustIf(0, 0, 0, 999, other));
    }

    static void promise36Ways() {
        Edge.ways((x, way) -> x.trustIf(0, way, 0, 999, 1));
        Edge.asks(x -> x.trustIf(0, 0, 0, 5, 1));
    }

    static void promise36Low() {
        Edge.range(0, 999, (x, low) -> x.trustIf(0, 0, low, 999, 1));
    }

    static void promise36HighFromLow() {
        Edge.range(0, 999, (x, high) -> x.trustIf(0, 0, 0, high, 1));
        Edge.range(500, 999, (x, high) -> x.trustIf(0, 0, 500, high, 1));
        Edge.refuses("both above", Edge::busy, Check.ARGUMENT, x -> x.trustIf(0, 0, 1000, 1000, 0));
    }

    static void promise36IndexesFirst() {
        Edge.refuses("agent and low", Edge::busy, Check.INDEX, x -> x.trustIf(3, 0, -1, 5, 1));
        Edge.refuses("way and high", Edge::busy, Check.INDEX, x -> x.trustIf(0, 2, 6, 5, 1));
        Edge.refuses("other and high", Edge::busy, Check.INDEX, x -> x.trustIf(0, 0, 6, 5, 3));
    }

    static void promise36NoLink() {
        PathTrust x = Edge.heard(5);
        Edge.is("never", x.trustIf(0, 0, 100, 100, 2), NONE);
        Edge.is("itself", x.trustIf(0, 0, 100, 100, 0), NONE);
        x.link(0, 1, false);
        Edge.is("not any more", x.trustIf(0, 0, 100, 100, 1), NONE);
    }

    static void promise36OneNumberInCommon() {
        Edge.is("200", Edge.heard(5).trustIf(0, 0, 200, 999, 1), 6);
        Edge.is("201", Edge.heard(5).trustIf(0, 0, 201, 999, 1), 3);
        Edge.is("100", Edge.heard(5).trustIf(0, 0, 0, 100, 1), 6);
        Edge.is("99", Edge.heard(5).trustIf(0, 0, 0, 99, 1), 3);
    }

    static void promise36NotBelowZero() {
        Edge.is("3", Edge.heard(3).trustIf(0, 0, 0, 0, 1), 1);
        Edge.is("2", Edge.heard(2).trustIf(0, 0, 0, 0, 1), 0);
        Edge.is("1", Edge.heard(1).trustIf(0, 0, 0, 0, 1), 0);
        Edge.is("0", Edge.heard(0).trustIf(0, 0, 0, 0, 1), 0);
    }

    static void promise36AtMostTen() {
        Edge.is("8", Edge.heard(8).trustIf(0, 0, 100, 100, 1), 9);
        Edge.is("9", Edge.heard(9).trustIf(0, 0, 100, 100, 1), 10);
        Edge.is("10", Edge.heard(10).trustIf(0, 0, 100, 100, 1), 10);
    }

    static void promise36AnotherWayOrAgent() {
        Edge.is("no report of the way", Edge.heard(5).trustIf(0, 1, 0, 0, 1), 5);
        Edge.is("no report of another one", Edge.heard(5).trustIf(1, 0, 0, 0, 0), 5);
    }

    // Promise 37.

    static void promise37AgentsAndWays() {
        Edge.agents((x, agent) -> x.informed(agent, 0, 1));
        Edge.ways((x, way) -> x.informed(0, way, 1));
    }

    static void promise37Rounds() {
        Edge.range(0, 6, (x, rounds) -> x.informed(0, 0, rounds));
        Edge.asks(x -> x.informed(0, 0, 6));
    }

    static void promise37IndexesFirst() {
        Edge.refuses("agent and rounds", Edge::busy, Check.INDEX, x -> x.informed(3, 0, 7));
        Edge.refuses("way and rounds", Edge::busy, Check.INDEX, x -> x.informed(0, 2, -1));
    }

    static void promise37NoRounds() {
        PathTrust x = Edge.full();
        Edge.is("the messages are not delivered", x.informed(0, 0, 0), 1);
        x.deliver(1);
        Edge.is("one is", x.informed(0, 0, 0), 3);
    }

    static void promise37NoReport() {
        Edge.is("no probe", Edge.desk(2, 1, "link a b;probe b u 1 2;").informed(0, 0, 6), 0);
        Edge.is("one agent", Edge.desk(1, 1, "probe a u 1 2;").informed(0, 0, 6), 1);
    }

    static void promise37AllSix() {
        PathTrust x = Edge.desk(6, 1, Edge.star(6, 0) + "probe a u 1 2;probe f u 1 2;");
        Edge.is("of a", x.informed(0, 0, 0) + " " + x.informed(0, 0, 1), "1 63");
        Edge.is("of f", x.informed(5, 0, 0) + " " + x.informed(5, 0, 1) + " " + x.informed(5, 0, 2), "32 33 63");
    }

    static void promise37FewerHopsThanTheRulesTell() {
        PathTrust x = Edge.desk(6, 1, Edge.chain(6) + "probe a u 1 2;");
        Edge.is("3 hops", x.informed(0, 0, 2) + " " + x.informed(0, 0, 3) + " " + x.informed(0, 0, 6), "7 15 15");
        x.setRule(4, 2);
        Edge.is("2 hops", x.informed(0, 0, 6), 7);
        x.setRule(4, 1);
        Edge.is("1 hop", x.informed(0, 0, 6), 3);
    }

    static void promise37OlderThanTheAge() {
        PathTrust x = Edge.desk(2, 1, "link a b;probe a u 1 2;");
        x.pass(20);
        Edge.is("20 of 20", x.informed(0, 0, 1), 3);
        x.setRule(3, 19);
        Edge.is("20 of 19", x.informed(0, 0, 6), 1);
    }

    static void promise37NoRoomInTheQueue() {
        PathTrust x = Edge.full();
        x.probe(1, 0, 1, 2);
        Edge.is("a round", x.informed(1, 0, 1), 2);
        Edge.is("two rounds", x.informed(1, 0, 2), 3);
        x.lose();
        x.lose();
        Edge.is("room for both", x.informed(1, 0, 1), 3);
    }

    // Promise 38.

    static void promise38AgentsAndWays() {
        Edge.agents((x, agent) -> x.widthAfter(agent, 0, 1));
        Edge.ways((x, way) -> x.widthAfter(0, way, 1));
    }

    static void promise38Ticks() {
        Edge.range(0, 99, (x, ticks) -> x.widthAfter(0, 0, ticks));
        Edge.asks(x -> x.widthAfter(0, 0, 99));
        Edge.asks(x -> x.widthAfter(0, 0, 0));
    }

    static void promise38IndexesFirst() {
        Edge.refuses("agent and ticks", Edge::busy, Check.INDEX, x -> x.widthAfter(3, 0, -1));
        Edge.refuses("way and ticks", Edge::busy, Check.INDEX, x -> x.widthAfter(0, 2, 100));
    }

    static void promise38NoReport() {
        PathTrust x = Edge.desk(1, 1, "");
        Edge.is(x.widthAfter(0, 0, 0) + " " + x.widthAfter(0, 0, 1) + " " + x.widthAfter(0, 0, 99), "999 999 999");
    }

    static void promise38OlderThanTheAge() {
        PathTrust x = Edge.desk("rules drift 1 slack 0 least 0 age 20 hops 1;", 1, 1, "probe a u 500 500;");
        Edge.is("now", x.widthAfter(0, 0, 0), 0);
        Edge.is("1", x.widthAfter(0, 0, 1), 2);
        Edge.is("20 of 20", x.widthAfter(0, 0, 20), 40);
        Edge.is("21 of 20", x.widthAfter(0, 0, 21), 999);
        x.setRule(3, 99);
        Edge.is("99 of 99", x.widthAfter(0, 0, 99), 198);
    }

    static void promise38WithNoTicksNoReportLeaves() {
        PathTrust x = Edge.desk("rules drift 1 slack 0 least 0 age 20 hops 1;", 1, 1, "probe a u 500 500;");
        x.pass(5);
        x.setRule(3, 4);
        Edge.is("0 ticks", x.widthAfter(0, 0, 0), 10);
        Edge.is("1 tick", x.widthAfter(0, 0, 1), 999);
        x.setRule(3, 6);
        Edge.is("1 tick, 6 of 6", x.widthAfter(0, 0, 1), 12);
        Edge.is("2 ticks, 7 of 6", x.widthAfter(0, 0, 2), 999);
    }

    static void promise38ZeroAndNineHundredNinetyNine() {
        PathTrust x = Edge.desk("rules drift 20 slack 0 least 0 age 99 hops 1;", 1, 1, "probe a u 0 499;");
        Edge.is("0 to 979", x.widthAfter(0, 0, 24), 979);
        Edge.is("0 to 999", x.widthAfter(0, 0, 25), 999);
        Edge.is("0 to 999 at most", x.widthAfter(0, 0, 26), 999);
    }

    // Promise 39.

    static void promise39Agents() {
        Edge.agents((x, agent) -> x.widthWithout(agent, 0, 1));
        Edge.agents((x, other) -> x.widthWithout(0, 0, other));
    }

    static void promise39Ways() {
        Edge.ways((x, way) -> x.widthWithout(0, way, 1));
        Edge.asks(x -> x.widthWithout(0, 0, 1));
    }

    static void promise39NoReports() {
        PathTrust x = Edge.heard(5);
        Edge.is("none via c", x.widthWithout(0, 0, 2), 100);
        Edge.is("none but via b", x.widthWithout(0, 0, 1), 999);
        Edge.is("none at all", x.widthWithout(2, 1, 0), 999);
        Edge.is("no own ones", x.widthWithout(0, 0, 0), 100);
        Edge.is("own ones alone", x.widthWithout(1, 0, 1), 999);
    }

    static void promise39OneThatContradictsTheOthers() {
        PathTrust x = Edge.desk(3, 1, Edge.star(3, 5) + "probe b u 10 20;probe c u 30 300;");
        x.share(1);
        x.share(2);
        x.deliver(2);
        Edge.is("b's is taken", x.widthWithout(0, 0, 2), 10);
        Edge.is("without b c's is", x.widthWithout(0, 0, 1), 270);
    }

    static void promise39AllThatCameViaIt() {
        // c has a's report and b's own one, both via b.
        PathTrust x = Edge.desk(3, 1, Edge.chain(3) + "probe a u 10 20;probe b u 15 25;");
        x.exchange(2);
        Edge.is("both", x.sources(2, 0), 3);
        Edge.is("without b", x.widthWithout(2, 0, 1), 999);
        Edge.is("a is the origin only", x.widthWithout(2, 0, 0), 5);
    }

    // Promise 40.

    static void promise40Agents() {
        Edge.agents((x, agent) -> x.mostUseful(agent));
        Edge.asks(x -> x.mostUseful(0));
    }

    static void promise40NoNeighbors() {
        Edge.is("never", Edge.heard(5).mostUseful(2), NONE);
        PathTrust x = Edge.heard(5);
        x.link(0, 1, false);
        Edge.is("not any more", x.mostUseful(0), NONE);
        Edge.is("alone", Edge.desk(1, 1, "").mostUseful(0), NONE);
    }

    static void promise40TheLowestOneOfSeveral() {
        PathTrust x = Edge.desk(6, 2, Edge.star(6, 5) + "probe d u 10 20;probe e v 10 20;");
        Edge.is("no reports", x.mostUseful(0), 1);
        x.share(4);
        x.deliver(1);
        Edge.is("e", x.mostUseful(0), 4);
        x.share(3);
        x.deliver(1);
        Edge.is("d and e alike", x.mostUseful(0), 3);
        x.link(0, 3, false);
        Edge.is("e again", x.mostUseful(0), 4);
    }

    static void promise40GreaterByOne() {
        PathTrust x = Edge.desk(3, 2, Edge.star(3, 5) + "probe b u 10 20;probe c v 10 19;");
        x.share(1);
        x.share(2);
        x.deliver(2);
        Edge.is("without b 999 + 9, without c 10 + 999", x.mostUseful(0), 2);
    }

    static void promise40TheFirstAndTheLastNeighbor() {
        PathTrust x = Edge.desk(6, 1, "link f a;link f e;link f c;probe a u 10 20;probe e u 10 30;");
        Edge.is("all alike", x.mostUseful(5), 0);
        x.share(0);
        x.deliver(1);
        x.share(4);
        x.deliver(1);
        Edge.is("without a 20, without e 10", x.mostUseful(5), 0);
        x.setTrust(5, 0, 0);
        x.setRule(2, 1);
        Edge.is("without a 20, without e 999", x.mostUseful(5), 4);
    }

    static void promise40HowFarTheBoundsAreApart() {
        // Without b 900 to 950, without c 100 to 200: the farther ones have the lesser sum.
        PathTrust x = Edge.desk(3, 1, Edge.star(3, 5) + "probe b u 100 200;probe c u 900 950;");
        x.share(1);
        x.share(2);
        x.deliver(2);
        Edge.is(x.mostUseful(0), 2);
    }

    static void promise40NoWays() {
        Edge.is(Edge.desk(6, 0, "link f b;link f d;").mostUseful(5), 1);
    }

    // Promise 41.

    static void promise41Agents() {
        Edge.agents((x, agent) -> x.bestThen(agent));
        Edge.asks(x -> x.bestThen(0));
    }

    static void promise41NoWays() {
        Edge.is(Edge.desk(1, 0, "").bestThen(0), NONE);
    }

    static void promise41AnEmptyQueue() {
        Edge.is(Edge.desk(1, 2, "probe a v 0 998;").bestThen(0), 1);
        Edge.is("nothing known", Edge.desk(1, 2, "").bestThen(0), 0);
    }

    static void promise41AFullQueue() {
        PathTrust x = Edge.desk(2, 2, "link a b;probe a u 5 9;");
        for (int i = 0; i < 99; i++) {
            x.share(0);
        }
        x.probe(0, 1, 1, 1);
        x.forget(0, 0);
        x.share(0);
        Edge.is("the last one of 100 is delivered, too", x.property(8) + " " + x.bestThen(1), "100 1");
        x.undo();
        Edge.is("of 99 it is not", x.property(8) + " " + x.bestThen(1), "99 0");
    }

    static void promise41RefusedOnes() {
        PathTrust x = Edge.desk(2, 2, "link a b;probe a v 5 9;");
        x.share(0);
        Edge.is("delivered", x.bestThen(1), 1);
        x.pass(20);
        Edge.is("20 of 20", x.bestThen(1), 1);
        x.pass(1);
        Edge.is("21 of 20", x.bestThen(1), 0);
    }

    static void promise41TheLowestOneOfSeveral() {
        PathTrust x = Edge.desk(2, 3, "link a b;probe a w 5 9;probe a v 5 9;");
        x.share(0);
        Edge.is(x.bestThen(1), 1);
    }
}
