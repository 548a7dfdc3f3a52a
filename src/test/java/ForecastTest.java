/** Promises 35 to 41: what would be; and that asking changes nothing. */
public final class ForecastTest {
    private static final int NONE = PathTrust.NONE;
    private static final String STAR = "rules drift 1 slack 2 least 3 age 20 hops 2;agent a;agent b;agent c;agent d;"
            + "way x;way y;link a b trust 8;link a c trust 6;link b d trust 6;"
            + "probe b x 150 160;probe c x 190 250;probe c y 20 30;";

    public static void main(String[] args) {
        beliefIf();
        trustIf();
        informed();
        widthAfter();
        widthWithout();
        mostUseful();
        bestThen();
        nothingChanges();
        wrongInputs();
        Check.end("ForecastTest");
    }

    private static PathTrust star() {
        PathTrust x = Check.made(STAR);
        x.share(1);
        x.share(2);
        Check.is("all are delivered", x.deliver(100), 4);
        return x;
    }

    private static String beliefIf(PathTrust x, int agent, int way, int low, int high) {
        return x.beliefIf(agent, way, low, high, 0) + "-" + x.beliefIf(agent, way, low, high, 1);
    }

    private static void beliefIf() {
        PathTrust x = star();
        // a trusts b 8 and c 6: b's is 146-164, c's 182-258.
        Check.is("promise 20: before", Check.belief(x, 0, 0), "146-164");
        Check.is("promise 35: own alone", beliefIf(x, 0, 0, 400, 500), "400-500");
        // A confirmation makes the trust in b 9 first, so its report 148-162.
        Check.is("promise 35: with the trust as it is then", beliefIf(x, 0, 0, 100, 155), "148-155");
        // A contradiction makes the trust in c 4, so its report 178-262.
        Check.is("promise 35: c is contradicted", beliefIf(x, 0, 0, 0, 180), "148-162");
        Check.is("promise 35: b is", beliefIf(x, 0, 0, 165, 999), "184-256");
        Check.is("promise 35: one number", beliefIf(x, 0, 1, 999, 999), "999-999");
        Check.is("promise 35: 0", beliefIf(x, 0, 1, 0, 0), "0-0");
        Check.is("promise 35: all", beliefIf(x, 1, 0, 0, 999), "0-999");
        x.probe(0, 0, 1, 2);
        Check.is("promise 35: in place of the own one", beliefIf(x, 0, 0, 3, 4), "3-4");
    }

    private static void trustIf() {
        PathTrust x = star();
        Check.is("promise 36: confirmed", x.trustIf(0, 0, 155, 155, 1), 9);
        Check.is("promise 36: and c contradicted", x.trustIf(0, 0, 155, 155, 2), 4);
        Check.is("promise 36: one number", x.trustIf(0, 0, 100, 150, 1), 9);
        Check.is("promise 36: the low bound counts", x.trustIf(0, 0, 160, 180, 1) + " " + x.trustIf(0, 0, 161, 180, 1),
                "9 6");
        Check.is("promise 36: one less", x.trustIf(0, 0, 100, 149, 1), 6);
        Check.is("promise 36: of another way", x.trustIf(0, 1, 155, 155, 1), 8);
        Check.is("promise 36: no link", x.trustIf(0, 0, 155, 155, 3), NONE);
        Check.is("promise 36: itself", x.trustIf(0, 0, 155, 155, 0), NONE);
        x.setTrust(0, 1, 10);
        x.setTrust(0, 2, 1);
        Check.is("promise 36: at most 10", x.trustIf(0, 0, 155, 155, 1), 10);
        Check.is("promise 36: not below 0", x.trustIf(0, 0, 155, 155, 2), 0);
        x.pass(5);
        Check.is("promise 36: by drift, too", x.trustIf(0, 0, 100, 145, 1) + " " + x.trustIf(0, 0, 100, 144, 1), "10 8");
    }

    private static void informed() {
        PathTrust x = Check.made("rules drift 0 slack 0 least 0 age 20 hops 3;agent a;agent b;agent c;agent d;agent e;"
                + "way x;way y;link a b;link b c;link c d;link d e;probe a x 1 2;");
        Check.is("promise 37: now", x.informed(0, 0, 0), 1);
        Check.is("promise 37: nothing", x.informed(0, 1, 6) + " " + x.informed(1, 0, 6), "0 0");
        Check.is("promise 37: a round is not more than a hop", x.informed(0, 0, 1) + " " + x.informed(0, 0, 2), "3 7");
        Check.is("promise 37: three hops", x.informed(0, 0, 3) + " " + x.informed(0, 0, 6), "15 15");
        x.setRule(4, 2);
        Check.is("promise 37: two hops", x.informed(0, 0, 6), 7);
        x.share(0);
        Check.is("promise 37: the queue is delivered in a round", x.informed(0, 0, 0) + " " + x.informed(0, 0, 1), "1 3");
        x.forget(0, 0);
        Check.is("promise 37: what the agent forgot", x.informed(0, 0, 1) + " " + x.informed(0, 0, 2), "2 6");
        x.pass(21);
        Check.is("promise 37: too old", x.informed(0, 0, 6), 0);
    }

    private static void widthAfter() {
        PathTrust x = star();
        x.probe(0, 0, 100, 200);
        Check.is("promise 38: now, 148-162", x.widthAfter(0, 0, 0), 14);
        Check.is("promise 38: 138-172", x.widthAfter(0, 0, 10), 34);
        // own 80-220, b 128-182, c, which is trusted 7 now, 164-276.
        Check.is("promise 38: 164-182", x.widthAfter(0, 0, 20), 18);
        Check.is("promise 38: they left", x.widthAfter(0, 0, 21), 999);
        Check.is("promise 38: 99", x.widthAfter(0, 0, 99), 999);
        x.setRule(3, 5);
        Check.is("promise 38: none is too old", x.widthAfter(0, 0, 5), 24);
        x.pass(5);
        x.setRule(3, 4);
        Check.is("promise 38: with 0 ticks no report leaves", x.widthAfter(0, 0, 0), 24);
        Check.is("promise 38: with 1 they leave", x.widthAfter(0, 0, 1), 999);
    }

    private static void widthWithout() {
        PathTrust x = star();
        x.probe(0, 0, 100, 200);
        Check.is("promise 39: without b, 184-200", x.widthWithout(0, 0, 1), 16);
        Check.is("promise 39: without c", x.widthWithout(0, 0, 2), 14);
        Check.is("promise 39: without d", x.widthWithout(0, 0, 3), 14);
        Check.is("promise 39: without its own, b 148-162", x.widthWithout(0, 0, 0), 14);
        x.setRule(0, 0);
        x.pass(1);
        x.probe(1, 0, 135, 136);
        x.share(1);
        x.deliver(100);
        // a trusts b 10 now: own 100-200, b 135-136, c 184-256.
        Check.is("promise 39: without its own, b 135-136", x.widthWithout(0, 0, 0), 1);
        Check.is("promise 39: y", x.widthWithout(0, 1, 2) + " " + x.widthWithout(0, 1, 1), "999 22");
        // d's report of c's probe came via b.
        x.relay(0);
        x.deliver(100);
        x.relay(1);
        x.deliver(100);
        Check.is("promise 39: via, not origin", x.widthWithout(3, 1, 2) + " " + x.widthWithout(3, 1, 1), "999 999");
        x.setRule(4, 3);
        x.relay(1);
        x.deliver(100);
        Check.is("d's last one, c's of y, via b", Check.list(x, 3).endsWith(";2 1 3 1 0 20 30;"), true);
        Check.is("promise 39: without the origin", x.widthWithout(3, 1, 2) < 999, true);
        Check.is("promise 39: without b", x.widthWithout(3, 1, 1), 999);
    }

    private static void mostUseful() {
        PathTrust x = star();
        Check.is("promise 40: c, for y", x.mostUseful(0), 2);
        Check.is("promise 40: no own neighbors but a and d", x.mostUseful(1), 0);
        x.link(1, 3, false);
        Check.is("promise 40: no neighbors", x.mostUseful(3), NONE);
        x.forget(0, 1);
        // Without b: 182-258, without c: 146-164.
        Check.is("promise 40: b, for x", x.mostUseful(0), 1);
        x.link(0, 3, true);
        x.forget(0, 0);
        Check.is("promise 40: all alike", x.mostUseful(0), 1);
        x.link(0, 1, false);
        Check.is("promise 40: all alike", x.mostUseful(0), 2);
        sums();
        PathTrust noWays = Check.made("rules drift 0 slack 0 least 0 age 20 hops 3;agent a;agent b;agent c;link c b;");
        Check.is("promise 40: no ways", noWays.mostUseful(2) + " " + noWays.mostUseful(0), "1 -1");
    }

    private static void sums() {
        PathTrust x = Check.made("rules drift 0 slack 0 least 0 age 20 hops 3;agent a;agent b;agent c;way p;way q;"
                + "link a b;link a c;probe a p 0 700;probe a q 500 900;probe b p 0 100;probe b q 800 900;"
                + "probe c p 0 90;probe c q 700 820;");
        x.share(1);
        x.share(2);
        x.deliver(100);
        // All: 90 and 20. Without b: 90 and 120. Without c: 100 and 100.
        Check.is("promise 39", "" + x.widthWithout(0, 0, 1) + " " + x.widthWithout(0, 1, 1) + " " + x.widthWithout(0, 0, 2)
                + " " + x.widthWithout(0, 1, 2), "90 120 100 100");
        Check.is("promise 40: 210 and 200", x.mostUseful(0), 1);
        x.pass(1);
        x.probe(1, 1, 780, 900);
        x.share(1);
        x.deliver(100);
        // Without b: 90 and 120. Without c: 100 and 120.
        Check.is("promise 40: 210 and 220", x.mostUseful(0), 2);
        x.pass(1);
        x.probe(2, 0, 0, 80);
        x.probe(1, 1, 730, 820);
        x.share(1);
        x.share(2);
        x.deliver(100);
        // Without b: 80 and 120. Without c: 100 and 90.
        Check.is("promise 40: 200 and 190", x.mostUseful(0), 1);
    }

    private static void bestThen() {
        PathTrust x = Check.made(STAR);
        Check.is("promise 41: no messages", x.bestThen(0), 0);
        x.share(2);
        Check.is("promise 41: c's of y", x.bestThen(0), 1);
        Check.is("promise 25: not yet", x.best(0, 0), 0);
        x.probe(0, 0, 1, 29);
        Check.is("promise 41: the own one of x", x.bestThen(0), 0);
        x.probe(0, 1, 400, 900);
        x.probe(0, 0, 1, 950);
        Check.is("promise 41: c's is judged", x.bestThen(0), 0);
        x.link(0, 2, false);
        Check.is("promise 41: refused", x.bestThen(0), 1);
        PathTrust noWays = Check.made("rules drift 0 slack 0 least 0 age 20 hops 3;agent a;");
        Check.is("promise 41: no ways", noWays.bestThen(0), NONE);
        PathTrust many = Check.made("rules drift 0 slack 0 least 0 age 20 hops 3;agent a;agent b;way x;way y;"
                + "link a b;probe a x 100 100;probe a y 99 99;");
        for (int i = 0; i < 49; i++) {
            many.share(0);
        }
        many.pass(1);
        many.probe(0, 0, 1, 300);
        many.probe(0, 1, 2, 400);
        many.share(0);
        Check.is("promise 41: all 100 messages", many.property(8) + " " + many.bestThen(1), "100 0");
    }

    private static void nothingChanges() {
        PathTrust x = star();
        x.share(2);
        x.pass(3);
        x.relay(0);
        x.writeReports(0);
        String before = Check.state(x);
        for (int way = 0; way < 2; way++) {
            for (int agent = 0; agent < 4; agent++) {
                x.beliefIf(agent, way, 5, 6, 0);
                x.trustIf(agent, way, 5, 6, 1);
                x.informed(agent, way, 6);
                x.widthAfter(agent, way, 99);
                x.widthWithout(agent, way, 1);
                x.mostUseful(agent);
                x.bestThen(agent);
                x.message(agent, 5);
            }
        }
        Check.is("asking changes nothing", Check.state(x), before);
    }

    private static void wrongInputs() {
        PathTrust x = star();
        for (int n : new int[] {-1, 4, Integer.MIN_VALUE, Integer.MAX_VALUE}) {
            Check.fails("promise 35: agent", x, Check.INDEX, () -> x.beliefIf(n, 0, 9, 8, 2));
            Check.fails("promise 36: agent", x, Check.INDEX, () -> x.trustIf(n, 0, 9, 8, 1));
            Check.fails("promise 36: other", x, Check.INDEX, () -> x.trustIf(0, 0, 9, 8, n));
            Check.fails("promise 37: agent", x, Check.INDEX, () -> x.informed(n, 0, 7));
            Check.fails("promise 38: agent", x, Check.INDEX, () -> x.widthAfter(n, 0, -1));
            Check.fails("promise 39: agent", x, Check.INDEX, () -> x.widthWithout(n, 0, 0));
            Check.fails("promise 39: other", x, Check.INDEX, () -> x.widthWithout(0, 0, n));
            Check.fails("promise 40: agent", x, Check.INDEX, () -> x.mostUseful(n));
            Check.fails("promise 41: agent", x, Check.INDEX, () -> x.bestThen(n));
        }
        for (int n : new int[] {-1, 2, Integer.MIN_VALUE, Integer.MAX_VALUE}) {
            Check.fails("promise 35: way", x, Check.INDEX, () -> x.beliefIf(0, n, 9, 8, 0));
            Check.fails("promise 35: end", x, Check.ARGUMENT, () -> x.beliefIf(0, 0, 8, 9, n));
            Check.fails("promise 36: way", x, Check.INDEX, () -> x.trustIf(0, n, 9, 8, 0));
            Check.fails("promise 37: way", x, Check.INDEX, () -> x.informed(0, n, 7));
            Check.fails("promise 38: way", x, Check.INDEX, () -> x.widthAfter(0, n, 100));
            Check.fails("promise 39: way", x, Check.INDEX, () -> x.widthWithout(0, n, 0));
        }
        int[][] bounds = {{-1, 5}, {9, 8}, {0, 1000}, {1000, 1000}, {1000, 999}, {5, Integer.MIN_VALUE}};
        for (int[] b : bounds) {
            Check.fails("promise 35: bounds", x, Check.ARGUMENT, () -> x.beliefIf(0, 0, b[0], b[1], 0));
            Check.fails("promise 36: bounds", x, Check.ARGUMENT, () -> x.trustIf(0, 0, b[0], b[1], 1));
        }
        Check.fails("promise 37: rounds 7", x, Check.ARGUMENT, () -> x.informed(0, 0, 7));
        Check.fails("promise 37: rounds -1", x, Check.ARGUMENT, () -> x.informed(0, 0, -1));
        Check.fails("promise 38: ticks 100", x, Check.ARGUMENT, () -> x.widthAfter(0, 0, 100));
        Check.fails("promise 38: ticks -1", x, Check.ARGUMENT, () -> x.widthAfter(0, 0, -1));
    }
}
