/** The edges of promises 58 to 60: what is written. */
public final class OutputEdgeTest {
    public static void main(String[] args) throws Exception {
        Edge.runAll(OutputEdgeTest.class);
    }

    private static String beliefs(PathTrust x, int agent) {
        return x.writeBeliefs(agent) + " " + Check.output(x);
    }

    private static String reports(PathTrust x, int agent) {
        return x.writeReports(agent) + " " + Check.output(x);
    }

    /** The call changes the output buffer alone. */
    private static void changesTheOutputAlone(Edge.Call call) {
        PathTrust x = Edge.busy();
        call.on(x);
        x.writeReports(0);
        Edge.is("all but the output", Edge.all(x), Edge.all(Edge.busy()));
    }

    // Promise 58.

    static void promise58Agents() {
        Edge.agents((x, agent) -> x.writeBeliefs(agent));
        changesTheOutputAlone(x -> x.writeBeliefs(1));
    }

    static void promise58NoWays() {
        Edge.is("an empty buffer", beliefs(Edge.desk(1, 0, ""), 0), "0 ");
        PathTrust x = Edge.busy();
        x.writeReports(0);
        Check.load(x, Edge.STILL + "agent a;");
        Edge.is("in place of what was there", beliefs(x, 0), "0 ");
    }

    static void promise58OneWay() {
        Edge.is(beliefs(Edge.desk(1, 1, ""), 0), "7 u:0-999");
    }

    static void promise58SixWays() {
        Edge.is(beliefs(Edge.desk(1, 6, "probe a z 0 0;probe a y 999 999;probe a u 10 100;probe a w 9 10;"), 0),
                "47 u:10-100 v:0-999 w:9-10 x:0-999 y:999-999 z:0-0");
    }

    static void promise58TheLongestNames() {
        PathTrust x = Check.made(Edge.STILL + "agent a;way zzzzzz;way aaaaaa;way abcdef;way z;");
        Edge.is(beliefs(x, 0), "46 zzzzzz:0-999 aaaaaa:0-999 abcdef:0-999 z:0-999");
    }

    static void promise58ReplacesALongerContent() {
        PathTrust x = Edge.desk(1, 2, "");
        Edge.is("long", beliefs(x, 0), "15 u:0-999 v:0-999");
        x.probe(0, 0, 1, 1);
        x.probe(0, 1, 2, 2);
        Edge.is("short", beliefs(x, 0), "11 u:1-1 v:2-2");
        x.forget(0, 0);
        Edge.is("long again", beliefs(x, 0), "13 u:0-999 v:2-2");
    }

    // Promise 59.

    static void promise59Agents() {
        Edge.agents((x, agent) -> x.writeReports(agent));
        changesTheOutputAlone(x -> x.writeReports(1));
    }

    static void promise59NoReports() {
        Edge.is("an empty buffer", reports(Edge.desk(1, 1, ""), 0), "0 ");
        PathTrust x = Edge.desk(2, 1, "probe a u 1 2;");
        Edge.is("one", reports(x, 0), "10 a/u 1-2@0\n");
        Edge.is("none, in place of what was there", reports(x, 1), "0 ");
    }

    static void promise59ANewlineBehindEach() {
        Edge.is(reports(Edge.desk(1, 2, "probe a v 0 0;probe a u 999 999;"), 0), "24 a/v 0-0@0\na/u 999-999@0\n");
    }

    static void promise59TakenContradictedAndLeftOut() {
        PathTrust x = Edge.desk(3, 1, Edge.star(3, 5) + "probe a u 10 20;probe b u 20 30;probe c u 21 30;");
        x.share(1);
        x.share(2);
        x.deliver(2);
        Edge.is("taken and contradicted", reports(x, 0), "37 a/u 10-20@0\nb/u 20-30@0\nc/u 21-30@0!\n");
        x.setRule(2, 4);
        Edge.is("c is trusted 3", reports(x, 0), "37 a/u 10-20@0\nb/u 20-30@0\nc/u 21-30@0?\n");
        x.setRule(2, 10);
        x.link(0, 1, false);
        Edge.is("all others", reports(x, 0), "38 a/u 10-20@0\nb/u 20-30@0?\nc/u 21-30@0?\n");
    }

    static void promise59BoundsAreNotMoved() {
        PathTrust x = Edge.desk("rules drift 20 slack 50 least 0 age 99 hops 1;", 1, 1, "probe a u 500 501;");
        x.pass(9);
        Edge.is("a time of one digit", reports(x, 0), "14 a/u 500-501@0\n");
        x.probe(0, 0, 0, 999);
        Edge.is("9", reports(x, 0), "12 a/u 0-999@9\n");
        x.pass(1);
        x.probe(0, 0, 99, 100);
        Edge.is("10", reports(x, 0), "14 a/u 99-100@10\n");
    }

    static void promise59GreatTimes() {
        PathTrust x = Edge.desk(1, 1, "");
        for (int i = 0; i < 105; i++) {
            x.pass(99);
        }
        x.probe(0, 0, 1, 2);
        Edge.is("10395", reports(x, 0), "14 a/u 1-2@10395\n");
    }

    static void promise59TheLongestNames() {
        PathTrust x = Check.made(Edge.STILL + "agent zzzzzz;way abcdef;probe zzzzzz abcdef 100 999;");
        Edge.is(reports(x, 0), "24 zzzzzz/abcdef 100-999@0\n");
    }

    static void promise59AsManyAsCanBe() {
        PathTrust x = Edge.crowded();
        Edge.is("36 of 12 bytes", x.writeReports(0), 36 * 12);
        Edge.is("the last byte", x.outputByte(36 * 12 - 1), 10);
        Edge.is("the last one", (char) x.outputByte(35 * 12) + "" + (char) x.outputByte(35 * 12 + 2), "fz");
        Check.fails("promise 59: no more", x, Check.INDEX, () -> x.outputByte(36 * 12));
    }

    // Promise 60.

    static void promise60AnEmptyBuffer() {
        Edge.refuses("at first", PathTrust::new, Check.INDEX, x -> x.outputByte(0));
        PathTrust x = Edge.busy();
        x.writeReports(0);
        Check.load(x, Edge.STILL + "agent a;");
        x.writeReports(0);
        Check.fails("promise 60: an empty content", x, Check.INDEX, () -> x.outputByte(0));
    }

    static void promise60NegativeOrNotLessThanTheLength() {
        int length = Edge.busy().writeReports(0);
        for (int index : new int[] {-1, length, length + 1, Edge.LEAST, Edge.GREATEST}) {
            Edge.refuses("" + index, Edge::busy, Check.INDEX, x -> x.outputByte(index));
        }
        Edge.is("the first byte", Edge.busy().outputByte(0), (int) 'a');
        Edge.is("the last byte", Edge.busy().outputByte(length - 1), 10);
        Edge.asks(x -> x.outputByte(0));
    }

    static void promise60OfALongerContentNothingIsLeft() {
        PathTrust x = Edge.desk(1, 1, "");
        Edge.is("long", x.writeBeliefs(0), 7);
        x.probe(0, 0, 1, 2);
        Edge.is("short", x.writeBeliefs(0), 5);
        Check.fails("promise 60: behind the short one", x, Check.INDEX, () -> x.outputByte(5));
        Edge.is("its last byte", x.outputByte(4), (int) '2');
    }
}
