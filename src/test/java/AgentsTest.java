/** Promises 9 to 19, 32 to 34: properties, trust, ways from agent to agent, reports, accounts, messages. */
public final class AgentsTest {
    private static final String FIVE = "rules drift 2 slack 3 least 4 age 30 hops 3;"
            + "agent ann;agent bob;agent cy;agent dan;agent eve;way p;way q;way r;"
            + "link ann bob trust 6;link bob cy trust 9;link ann cy trust 2;link cy dan;";
    private static final int NONE = PathTrust.NONE;

    public static void main(String[] args) {
        property();
        trust();
        neighbors();
        distance();
        bottleneck();
        mostTrusted();
        report();
        status();
        moved();
        own();
        account();
        message();
        standing();
        Check.end("AgentsTest");
    }

    private static void property() {
        PathTrust x = Check.made(FIVE + "probe ann p 1 2;");
        x.pass(4);
        x.share(0);
        int[] due = {5, 3, 4, 2, 3, 4, 30, 3, 2, 4};
        for (int what = 0; what < due.length; what++) {
            Check.is("promise 9: property " + what, x.property(what), due[what]);
        }
        Check.fails("promise 9: 10", x, Check.ARGUMENT, () -> x.property(10));
        Check.fails("promise 9: -1", x, Check.ARGUMENT, () -> x.property(-1));
        Check.fails("promise 9: greatest", x, Check.ARGUMENT, () -> x.property(Integer.MAX_VALUE));
    }

    private static void trust() {
        PathTrust x = Check.made(FIVE);
        x.setTrust(1, 0, 7);
        Check.is("promise 10: of the first one in the other one", x.trust(0, 1) + " " + x.trust(1, 0), "6 7");
        Check.is("promise 10: no link", x.trust(0, 3), NONE);
        Check.is("promise 10: the same", x.trust(2, 2), NONE);
        x.setTrust(2, 3, 0);
        Check.is("promise 10: 0 is a trust", x.trust(2, 3), 0);
        Check.fails("promise 10: agent 5", x, Check.INDEX, () -> x.trust(5, 0));
        Check.fails("promise 10: other 5", x, Check.INDEX, () -> x.trust(0, 5));
        Check.fails("promise 10: agent -1", x, Check.INDEX, () -> x.trust(-1, 0));
        Check.fails("promise 10: other -1", x, Check.INDEX, () -> x.trust(0, -1));
        PathTrust fresh = new PathTrust();
        Check.fails("promise 10: no agents", fresh, Check.INDEX, () -> fresh.trust(0, 0));
    }

    private static void neighbors() {
        PathTrust x = Check.made(FIVE);
        String due = "6 5 11 4 0";
        Check.is("promise 11", x.neighbors(0) + " " + x.neighbors(1) + " " + x.neighbors(2) + " " + x.neighbors(3)
                + " " + x.neighbors(4), due);
        x.setTrust(0, 1, 0);
        Check.is("promise 11: trust 0 is a link", x.neighbors(0), 6);
        Check.fails("promise 11: -1", x, Check.INDEX, () -> x.neighbors(-1));
        Check.fails("promise 11: 5", x, Check.INDEX, () -> x.neighbors(5));
    }

    private static void distance() {
        PathTrust x = Check.made(FIVE);
        Check.is("promise 12: the same", x.distance(4, 4), 0);
        Check.is("promise 12: neighbors", x.distance(0, 2), 1);
        Check.is("promise 12: two links", x.distance(0, 3) + " " + x.distance(3, 1), "2 2");
        Check.is("promise 12: none", x.distance(0, 4) + " " + x.distance(4, 0), "-1 -1");
        x.setTrust(0, 1, 0);
        Check.is("promise 12: whatever the trust", x.distance(0, 1), 1);
        PathTrust chain = Check.made("rules drift 0 slack 0 least 0 age 1 hops 1;agent a;agent b;agent c;agent d;"
                + "agent e;agent f;link f e;link e d;link d c;link c b;link b a;");
        Check.is("promise 12: five links", chain.distance(0, 5) + " " + chain.distance(5, 0), "5 5");
        Check.is("promise 13: five links", chain.bottleneck(0, 5) + " " + chain.bottleneck(5, 0), "5 5");
        Check.fails("promise 12: agent", x, Check.INDEX, () -> x.distance(5, 0));
        Check.fails("promise 12: other", x, Check.INDEX, () -> x.distance(0, 5));
        Check.fails("promise 12: agent -1", x, Check.INDEX, () -> x.distance(-1, 0));
        Check.fails("promise 12: other -1", x, Check.INDEX, () -> x.distance(0, -1));
    }

    private static void bottleneck() {
        PathTrust x = Check.made(FIVE);
        Check.is("promise 13: the same", x.bottleneck(4, 4), 10);
        Check.is("promise 13: a longer way is better", x.bottleneck(0, 2), 6);
        Check.is("promise 13: over three links", x.bottleneck(0, 3), 5);
        Check.is("promise 13: none", x.bottleneck(0, 4), NONE);
        x.setTrust(2, 3, 8);
        Check.is("promise 13: of the nearer one", x.bottleneck(0, 3) + " " + x.bottleneck(3, 0), "6 5");
        x.setTrust(0, 1, 0);
        Check.is("promise 13: by the other link", x.bottleneck(0, 3), 2);
        x.setTrust(0, 2, 0);
        Check.is("promise 13: 0", x.bottleneck(0, 3), 0);
        x.setTrust(0, 1, 10);
        Check.is("promise 13: 10 and 9", x.bottleneck(0, 1) + " " + x.bottleneck(0, 2), "10 9");
        Check.fails("promise 13: agent", x, Check.INDEX, () -> x.bottleneck(5, 0));
        Check.fails("promise 13: other", x, Check.INDEX, () -> x.bottleneck(0, 5));
        Check.fails("promise 13: agent -1", x, Check.INDEX, () -> x.bottleneck(-1, 0));
        Check.fails("promise 13: other -1", x, Check.INDEX, () -> x.bottleneck(0, -1));
    }

    private static void mostTrusted() {
        PathTrust x = Check.made(FIVE);
        Check.is("promise 14", x.mostTrusted(0) + " " + x.mostTrusted(1) + " " + x.mostTrusted(2), "1 2 1");
        Check.is("promise 14: no neighbors", x.mostTrusted(4), NONE);
        x.setTrust(0, 2, 6);
        Check.is("promise 14: the lowest one of two", x.mostTrusted(0), 1);
        x.setTrust(0, 1, 0);
        x.setTrust(0, 2, 0);
        Check.is("promise 14: trust 0", x.mostTrusted(0), 1);
        x.setTrust(1, 0, 10);
        Check.is("promise 14: its trust, not theirs", x.mostTrusted(1), 0);
        Check.fails("promise 14: 5", x, Check.INDEX, () -> x.mostTrusted(5));
        Check.fails("promise 14: -1", x, Check.INDEX, () -> x.mostTrusted(-1));
    }

    private static void report() {
        PathTrust x = Check.made(FIVE + "probe bob q 5 9;");
        Check.is("promise 15", x.reports(0) + " " + x.reports(1), "0 1");
        x.pass(3);
        x.probe(1, 2, 7, 8);
        x.relay(1);
        x.deliver(100);
        x.relay(2);
        x.deliver(100);
        Check.is("promise 16: own ones", Check.list(x, 1), "1 1 0 1 0 5 9;1 1 0 2 3 7 8;");
        Check.is("promise 16: two hops", Check.list(x, 3), "1 2 2 1 0 5 9;1 2 2 2 3 7 8;");
        Check.is("promise 15: after the relay", x.reports(3), 2);
        Check.fails("promise 15: 5", x, Check.INDEX, () -> x.reports(5));
        Check.fails("promise 15: -1", x, Check.INDEX, () -> x.reports(-1));
        Check.fails("promise 16: agent", x, Check.INDEX, () -> x.report(5, 0, 0));
        Check.fails("promise 16: agent -1", x, Check.INDEX, () -> x.report(-1, 0, 0));
        Check.fails("promise 16: report", x, Check.INDEX, () -> x.report(3, 2, 0));
        Check.fails("promise 16: report -1", x, Check.INDEX, () -> x.report(3, -1, 0));
        Check.fails("promise 16: report before what", x, Check.INDEX, () -> x.report(3, 2, 7));
        Check.fails("promise 16: what 7", x, Check.ARGUMENT, () -> x.report(3, 1, 7));
        Check.fails("promise 16: what -1", x, Check.ARGUMENT, () -> x.report(3, 1, -1));
    }

    private static void status() {
        PathTrust x = Check.made(FIVE + "probe ann p 100 110;probe cy p 500 510;probe bob p 105 106;");
        x.share(1);
        x.share(2);
        x.deliver(100);
        // ann trusts bob 7 and cy 0 now; the least trust is 4.
        Check.is("promise 17: trusts", x.trust(0, 1) + " " + x.trust(0, 2), "7 0");
        Check.is("promise 17: own", x.status(0, 0), 0);
        Check.is("promise 17: bob's", x.status(0, 1), 0);
        Check.is("promise 17: cy's is left out", x.status(0, 2), 2);
        x.setTrust(0, 2, 4);
        Check.is("promise 17: cy's is contradicted", x.status(0, 2), 1);
        x.link(0, 1, false);
        Check.is("promise 17: without a link", x.status(0, 1), 2);
        x.setRule(2, 0);
        Check.is("promise 17: without a link, whatever the least trust", x.status(0, 1), 2);
        Check.fails("promise 17: agent", x, Check.INDEX, () -> x.status(5, 0));
        Check.fails("promise 17: agent -1", x, Check.INDEX, () -> x.status(-1, 0));
        Check.fails("promise 17: report", x, Check.INDEX, () -> x.status(0, 3));
        Check.fails("promise 17: report -1", x, Check.INDEX, () -> x.status(0, -1));
    }

    private static String moved(PathTrust x, int agent, int index) {
        return x.moved(agent, index, 0) + "-" + x.moved(agent, index, 1);
    }

    private static void moved() {
        PathTrust x = Check.made(FIVE + "probe cy p 100 110;probe ann q 3 995;");
        x.pass(1);
        x.share(2);
        x.deliver(100);
        x.relay(1);
        x.deliver(100);
        // ann: an own report, and cy's via cy itself, as the one via bob came with more hops.
        Check.is("promise 18: the list", Check.list(x, 0), "0 0 0 1 0 3 995;2 2 1 0 0 100 110;");
        Check.is("promise 18: own, by drift alone", moved(x, 0, 0), "1-997");
        Check.is("promise 18: 2 * 1 + 3 * (10 - 2) * 1", moved(x, 0, 1), "74-136");
        Check.is("promise 18: though left out", x.status(0, 1), 2);
        x.pass(2);
        Check.is("promise 18: to 0 and 999 at most", moved(x, 0, 0), "0-999");
        Check.is("promise 18: 2 * 3 + 3 * 8", moved(x, 0, 1), "70-140");
        Check.is("promise 18: bob's, 2 * 3 + 3 * (10 - 9)", moved(x, 1, 0), "91-119");
        x.relay(2);
        x.lose();
        x.lose();
        x.deliver(1);
        Check.is("promise 18: dan's", moved(x, 3, 0), "79-131");
        x.link(2, 3, false);
        Check.is("promise 18: no link", moved(x, 3, 0), "-1--1");
        Check.is("promise 18: no link, but own", moved(x, 0, 0), "0-999");
        Check.fails("promise 18: end 2", x, Check.ARGUMENT, () -> x.moved(0, 0, 2));
        Check.fails("promise 18: end -1", x, Check.ARGUMENT, () -> x.moved(0, 0, -1));
        Check.fails("promise 18: end 2 without a link", x, Check.ARGUMENT, () -> x.moved(3, 0, 2));
        Check.fails("promise 18: report before end", x, Check.INDEX, () -> x.moved(0, 2, 2));
        Check.fails("promise 18: report -1", x, Check.INDEX, () -> x.moved(0, -1, 0));
        Check.fails("promise 18: agent", x, Check.INDEX, () -> x.moved(5, 0, 0));
        hops();
    }

    private static void hops() {
        PathTrust x = Check.made("rules drift 0 slack 7 least 0 age 30 hops 3;agent a;agent b;agent c;agent d;way p;"
                + "link a b;link b c;link c d trust 6;probe a p 500 500;");
        x.exchange(3);
        Check.is("promise 18: three hops, 7 * (10 - 6) * 3", moved(x, 3, 0), "416-584");
        Check.is("promise 18: two hops, 7 * (10 - 5) * 2", moved(x, 2, 0), "430-570");
    }

    private static void own() {
        PathTrust x = Check.made(FIVE + "probe ann q 1 2;probe bob p 3 4;probe bob q 1 1;");
        x.share(0);
        x.deliver(100);
        Check.is("promise 19", x.own(1, 0) + " " + x.own(1, 1) + " " + x.own(1, 2), "0 1 -1");
        Check.is("promise 19: a report of another one is no own one", x.own(2, 1), NONE);
        x.probe(1, 0, 5, 6);
        Check.is("promise 19: it came to the end", x.own(1, 0) + " " + x.own(1, 1), "2 0");
        Check.fails("promise 19: agent", x, Check.INDEX, () -> x.own(5, 0));
        Check.fails("promise 19: agent -1", x, Check.INDEX, () -> x.own(-1, 0));
        Check.fails("promise 19: way", x, Check.INDEX, () -> x.own(0, 3));
        Check.fails("promise 19: way -1", x, Check.INDEX, () -> x.own(0, -1));
    }

    private static String accounts(PathTrust x, int agent) {
        StringBuilder text = new StringBuilder();
        for (int what = 0; what < 5; what++) {
            text.append(x.account(agent, what));
        }
        return text.toString();
    }

    private static void account() {
        PathTrust x = Check.made(FIVE + "probe ann p 1 2;probe bob p 2 3;probe cy p 9 9;");
        Check.is("promise 32: probes of the text", accounts(x, 0), "10000");
        x.share(0);
        x.share(2);
        x.deliver(100);
        Check.is("promise 32: ann heard cy", accounts(x, 0), "11001");
        Check.is("promise 32: bob heard both", accounts(x, 1), "12011");
        Check.is("promise 32: cy heard ann", accounts(x, 2), "11001");
        Check.is("promise 32: dan heard cy and has no own report", accounts(x, 3), "01000");
        x.share(0);
        x.deliver(100);
        Check.is("promise 32: refused", accounts(x, 1), "12111");
        x.probe(1, 0, 9, 9);
        Check.is("promise 32: judged by a probe", accounts(x, 1), "22122");
        x.link(1, 2, false);
        x.link(1, 0, false);
        x.probe(1, 0, 9, 9);
        Check.is("promise 32: nothing happens without a link", accounts(x, 1), "32122");
        Check.fails("promise 32: what 5", x, Check.ARGUMENT, () -> x.account(0, 5));
        Check.fails("promise 32: what -1", x, Check.ARGUMENT, () -> x.account(0, -1));
        Check.fails("promise 32: agent before what", x, Check.INDEX, () -> x.account(5, 5));
        Check.fails("promise 32: agent -1", x, Check.INDEX, () -> x.account(-1, 0));
    }

    private static void message() {
        PathTrust x = Check.made(FIVE + "probe bob q 5 9;probe cy r 1 2;");
        x.share(1);
        x.relay(2);
        Check.is("promise 33", Check.queue(x), "1 0 1 1 1 0;1 2 1 1 1 0;2 0 2 1 2 0;2 1 2 1 2 0;2 3 2 1 2 0;");
        x.link(0, 1, false);
        Check.is("promise 33: reason 1", x.message(0, 5), 1);
        x.pass(30);
        Check.is("promise 33: 30 is not older than the age", x.message(1, 5), 0);
        x.deliver(2);
        x.share(1);
        Check.is("promise 33: reason 3", x.message(3, 5), 3);
        x.pass(1);
        Check.is("promise 33: reason 2", x.message(0, 5), 2);
        x.link(2, 0, false);
        Check.is("promise 33: reason 1 before 2", x.message(0, 5), 1);
        Check.fails("promise 33: what 6", x, Check.ARGUMENT, () -> x.message(0, 6));
        Check.fails("promise 33: what -1", x, Check.ARGUMENT, () -> x.message(0, -1));
        Check.fails("promise 33: what before index", x, Check.ARGUMENT, () -> x.message(99, 6));
        Check.fails("promise 33: index 4", x, Check.ELEMENT, () -> x.message(4, 0));
        Check.fails("promise 33: index -1", x, Check.ELEMENT, () -> x.message(-1, 5));
        reasons();
    }

    private static void reasons() {
        // b has a's report with one hop; c relays it with two; a later one comes, and an earlier one.
        PathTrust x = Check.made("rules drift 0 slack 0 least 0 age 9 hops 3;agent a;agent b;agent c;way p;"
                + "link a b;link a c;link b c;probe a p 1 9;");
        x.share(0);
        x.deliver(100);
        x.relay(2);
        Check.is("promise 33: more hops, the same time", Check.queue(x), "2 1 0 2 0 3;");
        x.pass(1);
        x.probe(0, 0, 2, 8);
        x.share(0);
        Check.is("promise 33: later", x.message(1, 5) + " " + x.message(2, 5), "0 0");
        x.deliver(100);
        Check.is("the later report took the place", Check.list(x, 1), "0 0 1 0 1 2 8;");
        x.forget(1, 0);
        x.relay(2);
        x.deliver(1);
        Check.is("the report with two hops", Check.list(x, 1), "0 2 2 0 1 2 8;");
        x.share(0);
        Check.is("promise 33: fewer hops, the same time", x.message(0, 5), 0);
        x.deliver(1);
        Check.is("the report with one hop took its place", Check.list(x, 1), "0 0 1 0 1 2 8;");
        // c has the report of the time 1 still, b that of the time 2 already, which made no more hops.
        x.lose();
        x.pass(1);
        x.probe(0, 0, 4, 4);
        x.share(0);
        x.deliver(1);
        x.lose();
        x.relay(2);
        Check.is("promise 33: earlier", Check.queue(x), "2 1 0 2 0 3;");
    }

    private static void standing() {
        PathTrust x = Check.made(FIVE);
        Check.is("promise 34: one neighbor", x.standing(3), 5.0f);
        Check.is("promise 34: no neighbor", x.standing(4), 0.0f);
        Check.is("promise 34: (6 + 9) / 2", x.standing(1), 7.5f);
        x.setTrust(0, 2, 3);
        Check.is("promise 34: (3 + 9 + 5) / 3", x.standing(2), 17.0f / 3.0f);
        x.setTrust(2, 0, 10);
        Check.is("promise 34: the trust in it, not its own", x.standing(2), 17.0f / 3.0f);
        x.setTrust(2, 3, 0);
        Check.is("promise 34: 0", x.standing(3), 0.0f);
        Check.fails("promise 34: 5", x, Check.INDEX, () -> x.standing(5));
        Check.fails("promise 34: -1", x, Check.INDEX, () -> x.standing(-1));
    }
}
