/** Promises 42 to 53: probes, messages, time, links, trust, rules, and what leaves the lists. */
public final class ChangeTest {
    private static final int NONE = PathTrust.NONE;
    private static final String TEXT = "rules drift 1 slack 2 least 3 age 20 hops 2;agent a;agent b;agent c;agent d;"
            + "way x;way y;link a b trust 8;link a c trust 6;link b d trust 6;"
            + "probe b x 150 160;probe c x 190 250;probe c y 20 30;";

    public static void main(String[] args) {
        probe();
        share();
        relay();
        deliver();
        lose();
        exchange();
        pass();
        link();
        setTrust();
        setRule();
        forget();
        cleanse();
        wrongInputs();
        Check.end("ChangeTest");
    }

    private static PathTrust told() {
        PathTrust x = Check.made(TEXT);
        x.share(1);
        x.share(2);
        Check.is("all are delivered", x.deliver(100), 4);
        return x;
    }

    private static void probe() {
        PathTrust x = told();
        Check.is("promise 42: both agree", x.probe(0, 0, 160, 190), 0);
        Check.is("promise 42: trusts", x.trust(0, 1) + " " + x.trust(0, 2), "9 7");
        Check.is("promise 42: its trust only", x.trust(1, 0) + " " + x.trust(2, 0), "8 6");
        Check.is("promise 42: one contradiction", x.probe(0, 0, 161, 190), 1);
        Check.is("promise 42: trusts", x.trust(0, 1) + " " + x.trust(0, 2), "7 8");
        Check.is("promise 42: two", x.probe(0, 0, 161, 189), 2);
        Check.is("promise 42: trusts", x.trust(0, 1) + " " + x.trust(0, 2), "5 6");
        Check.is("promise 42: the list", Check.list(x, 0),
                "1 1 1 0 0 150 160;2 2 1 0 0 190 250;2 2 1 1 0 20 30;0 0 0 0 0 161 189;");
        Check.is("promise 42: another way", x.probe(0, 1, 31, 31), 1);
        Check.is("promise 42: trusts", x.trust(0, 1) + " " + x.trust(0, 2), "5 4");
        x.pass(3);
        Check.is("promise 42: moved by its age", x.probe(0, 0, 163, 187), 0);
        Check.is("promise 42: and not more", x.probe(0, 0, 164, 186), 2);
        Check.is("promise 42: a time of its own", Check.list(x, 0),
                "1 1 1 0 0 150 160;2 2 1 0 0 190 250;2 2 1 1 0 20 30;0 0 0 1 0 31 31;0 0 0 0 3 164 186;");
        x.setTrust(0, 1, 1);
        x.setTrust(0, 2, 10);
        Check.is("promise 42: from 1 and 10", x.probe(0, 0, 187, 187), 1);
        Check.is("promise 42: to 0 and 10", x.trust(0, 1) + " " + x.trust(0, 2), "0 10");
        x.link(0, 1, false);
        Check.is("promise 42: nothing happens without a link", x.probe(0, 0, 0, 0), 1);
        Check.is("promise 42: trusts", x.trust(0, 1) + " " + x.trust(0, 2), "-1 8");
        Check.is("promise 42: 0 to 999", x.probe(3, 0, 0, 999), 0);
        Check.is("promise 42: bounds", Check.list(x, 3), "1 1 1 0 0 150 160;3 3 0 0 3 0 999;");
        via();
        PathTrust y = Check.made(TEXT + "probe b y 90 90;");
        y.share(1);
        y.share(2);
        y.deliver(100);
        y.setTrust(0, 2, 1);
        // Judged in the order of the list: c's of x, confirmed, goes to 2; the other way is not judged.
        Check.is("promise 42: order", y.probe(0, 0, 200, 200) + " " + y.trust(0, 2), "1 2");
    }

    private static void via() {
        // b has c's report via a, and a link with c, too.
        PathTrust x = Check.made(TEXT);
        x.exchange(2);
        x.link(1, 2, true);
        x.forget(1, 0);
        Check.is("c's of y, via a", Check.list(x, 1), "2 0 2 1 0 20 30;");
        Check.is("c's of x was a contradiction", x.trust(1, 0), 6);
        Check.is("promise 42: it is about the trust in a", x.probe(1, 1, 40, 50) + " " + x.trust(1, 0) + " "
                + x.trust(1, 2), "1 4 5");
        x.setTrust(1, 0, 10);
        Check.is("promise 22: origins, not via", x.contradicted(1, 1), 4);
        Check.is("promise 53: two hops", x.cleanse(1) + " " + Check.list(x, 1), "1 1 1 0 1 0 40 50;");
    }

    private static void share() {
        PathTrust x = told();
        Check.is("promise 43: own ones, and each neighbor", x.share(2), 2);
        Check.is("promise 43: in the order of the list", Check.queue(x), "2 0 2 1 0 3;2 0 2 1 1 3;");
        Check.is("promise 43: no own ones", x.share(0), 0);
        x.probe(0, 1, 1, 2);
        x.probe(0, 0, 1, 2);
        x.lose();
        x.lose();
        Check.is("promise 43: four", x.share(0), 4);
        Check.is("promise 43: by report, then by neighbor", Check.queue(x),
                "0 1 0 1 1 0;0 2 0 1 1 0;0 1 0 1 0 0;0 2 0 1 0 0;");
        x.setRule(4, 1);
        Check.is("promise 43: one hop is always right", x.share(1), 2);
        for (int i = 0; i < 23; i++) {
            Check.is("promise 43: room", x.share(0), 4);
        }
        Check.is("promise 43: 98", x.property(8), 98);
        Check.is("promise 43: as long as it has room", x.share(0), 2);
        Check.is("promise 43: the last ones", x.message(98, 4) + " " + x.message(98, 1) + " " + x.message(99, 4) + " "
                + x.message(99, 1), "1 1 1 2");
        Check.is("promise 43: no room", x.share(0), 0);
        Check.is("promise 44: no room", x.relay(0), 0);
        Check.is("promise 9: 100 messages", x.property(8), 100);
        x.pass(21);
        PathTrust old = Check.made(TEXT);
        old.pass(20);
        old.setRule(3, 5);
        Check.is("promise 43: too old, but still there", old.share(1) + " " + old.message(0, 5), "2 2");
    }

    private static void relay() {
        PathTrust x = told();
        Check.is("promise 44: not to the origin and via", x.relay(0), 3);
        Check.is("promise 44: two hops", Check.queue(x), "0 2 1 2 0 0;0 1 2 2 0 0;0 1 2 2 1 0;");
        x.deliver(3);
        Check.is("promise 44: hops less than the rules tell", x.relay(1), 2);
        Check.is("promise 44: own ones, too", Check.queue(x), "1 0 1 1 0 3;1 3 1 1 0 3;");
        x.setRule(4, 3);
        // b's list: own x, c's x and y via a; not to c, which has no link with b, and not to a.
        Check.is("promise 44: three hops", x.relay(1), 4);
        Check.is("promise 44: three hops", Check.queue(x),
                "1 0 1 1 0 3;1 3 1 1 0 3;1 0 1 1 0 3;1 3 1 1 0 3;1 3 2 3 0 0;1 3 2 3 1 0;");
        x.deliver(100);
        Check.is("promise 44: via b, of c", Check.list(x, 3), "1 1 1 0 0 150 160;2 1 3 0 0 190 250;2 1 3 1 0 20 30;");
        Check.is("promise 44: none with fewer hops", x.relay(3), 0);
        x.link(3, 2, true);
        x.link(3, 0, true);
        Check.is("promise 44: b's to c and to a", x.relay(3), 2);
        Check.is("promise 44: ascending", Check.queue(x), "3 0 1 2 0 3;3 2 1 2 0 3;");
        x.deliver(2);
        x.setRule(4, 1);
        Check.is("promise 44: one hop", x.relay(0), 0);
        // The origin is a neighbor that is not the one via which it came.
        PathTrust y = Check.made("rules drift 0 slack 0 least 0 age 9 hops 3;agent a;agent b;agent c;way p;"
                + "link a b;link b c;probe a p 1 2;");
        y.exchange(2);
        y.link(2, 0, true);
        Check.is("c's via b", Check.list(y, 2), "0 1 2 0 0 1 2;");
        Check.is("promise 44: not to the origin", y.relay(2), 0);
    }

    private static void deliver() {
        PathTrust x = Check.made(TEXT + "probe a x 100 149;");
        x.share(1);
        x.share(2);
        x.share(0);
        Check.is("the queue", Check.queue(x), "1 0 1 1 0 0;1 3 1 1 0 0;2 0 2 1 0 0;2 0 2 1 1 0;0 1 0 1 0 0;0 2 0 1 0 0;");
        Check.is("promise 45: one", x.deliver(1), 1);
        Check.is("promise 45: judged", x.trust(0, 1) + " " + x.account(0, 4), "6 1");
        Check.is("promise 45: the first one is gone", x.property(8) + " " + x.message(0, 1), "5 3");
        Check.is("promise 45: no own report, no judging", x.deliver(1) + " " + x.trust(3, 1), "1 6");
        Check.is("promise 45: two", x.deliver(2) + " " + x.trust(0, 2), "2 4");
        Check.is("promise 45: at most those that there are", x.deliver(100), 2);
        Check.is("promise 45: the empty queue", x.deliver(100), 0);
        Check.is("promise 45: b judged a's", x.trust(1, 0) + " " + x.trust(2, 0), "6 4");
        x.share(1);
        x.share(0);
        x.pass(1);
        x.probe(1, 0, 153, 153);
        x.share(1);
        x.link(0, 2, false);
        Check.is("promise 45: refused ones", x.deliver(100), 2);
        Check.is("promise 45: a later one comes to the end", Check.list(x, 0),
                "0 0 0 0 0 100 149;2 2 1 0 0 190 250;2 2 1 1 0 20 30;1 1 1 0 1 153 153;");
        // a's own one is moved by 1: 99-150; b's is not moved.
        Check.is("promise 45: trust in b", x.trust(0, 1), 4);
        x.pass(3);
        x.share(1);
        x.pass(1);
        // The probe of the time 1 is 5 - 1 old, a's 5: 149 + 5 and 153 - 4.
        x.forget(0, 1);
        x.setRule(3, 4);
        Check.is("promise 45: not older than the age", Check.queue(x), "1 0 1 1 0 3;1 3 1 1 0 3;");
        x.setRule(3, 3);
        Check.is("promise 45: older", x.deliver(100) + " " + x.account(0, 2) + " " + x.trust(0, 1), "0 2 4");
        confirmed();
    }

    private static void confirmed() {
        PathTrust x = Check.made("rules drift 2 slack 50 least 0 age 9 hops 1;agent a;agent b;way p;link a b trust 9;"
                + "probe a p 10 20;probe b p 33 50;");
        x.pass(3);
        x.share(1);
        x.probe(1, 0, 26, 30);
        x.share(1);
        Check.is("promise 45: 4-26 and 27-56 differ", 20 + 6 < 33 - 6, true);
        Check.is("promise 45: judged without slack", x.deliver(1) + " " + x.trust(0, 1), "1 7");
        Check.is("promise 45: 26 is in both", x.deliver(1) + " " + x.trust(0, 1), "1 8");
        x.setTrust(0, 1, 10);
        x.pass(1);
        x.probe(1, 0, 28, 28);
        x.share(1);
        Check.is("promise 45: 28 is, too, and 10 is the most", x.deliver(1) + " " + x.trust(0, 1), "1 10");
        x.pass(1);
        x.probe(1, 0, 31, 31);
        x.share(1);
        x.setTrust(0, 1, 1);
        Check.is("promise 45: 31 is not, and 0 is the least", x.deliver(1) + " " + x.trust(0, 1), "1 0");
    }

    private static void lose() {
        PathTrust x = Check.made(TEXT);
        Check.fails("promise 46: empty", x, Check.STATE, () -> x.lose());
        x.share(1);
        x.share(2);
        Check.is("promise 46: three left", x.lose(), 3);
        Check.is("promise 46: the first one is lost", Check.queue(x), "1 3 1 1 0 0;2 0 2 1 0 0;2 0 2 1 1 0;");
        Check.is("promise 46: not refused", x.account(0, 2), 0);
        Check.is("promise 46", x.lose() + " " + x.lose() + " " + x.lose(), "2 1 0");
        Check.fails("promise 46: empty again", x, Check.STATE, () -> x.lose());
    }

    private static void exchange() {
        PathTrust x = Check.made(TEXT);
        // b to a and d; c's two to a: four. In the second round a relays to b two of c's, and to c one of b's.
        Check.is("promise 47: a round", x.exchange(1), 4);
        Check.is("promise 47: nothing is left", x.property(8), 0);
        Check.is("promise 47: another", x.exchange(1), 3);
        Check.is("promise 47: refused in that", x.account(0, 2) + " " + x.account(3, 2), "3 1");
        Check.is("promise 47: no more hops", x.exchange(6), 0);
        Check.is("promise 47: all refused", x.account(0, 2) + " " + x.account(3, 2), "21 7");
        PathTrust y = Check.made(TEXT);
        Check.is("promise 47: two rounds", y.exchange(2), 7);
        PathTrust z = Check.made(TEXT);
        z.share(2);
        z.forget(2, 0);
        z.forget(2, 1);
        Check.is("promise 47: what was in the queue", z.exchange(1), 4);
        Check.is("promise 47: it was the first", Check.list(z, 0),
                "2 2 1 0 0 190 250;2 2 1 1 0 20 30;1 1 1 0 0 150 160;");
        for (int i = 0; i < 50; i++) {
            y.share(1);
        }
        y.pass(1);
        y.probe(0, 1, 1, 1);
        Check.is("promise 47: no room for relays", y.exchange(1) + " " + y.exchange(1), "0 2");
        PathTrust fresh = new PathTrust();
        Check.is("promise 47: no agents", fresh.exchange(6), 0);
        order();
    }

    private static void order() {
        // Agents in ascending order: a's message is before b's, so c hears it first.
        PathTrust x = Check.made("rules drift 0 slack 0 least 0 age 9 hops 1;agent a;agent b;agent c;way p;"
                + "link b c;link a c;probe b p 1 2;probe a p 3 4;");
        Check.is("promise 47: the order", x.exchange(1) + " " + Check.list(x, 2), "2 0 0 1 0 0 3 4;1 1 1 0 0 1 2;");
    }

    private static void pass() {
        PathTrust x = told();
        Check.is("promise 48: 20 is not older", x.pass(20) + " " + x.property(2), "0 20");
        x.probe(0, 0, 5, 6);
        // a has three, b one, c two and d one that leave.
        Check.is("promise 48: 21 is", x.pass(1) + " " + x.property(2), "7 21");
        Check.is("promise 48: what stays", Check.list(x, 0) + Check.list(x, 1), "0 0 0 0 20 5 6;");
        Check.is("promise 48: 99", x.pass(99) + " " + x.property(2), "1 120");
        PathTrust y = told();
        y.setRule(3, 5);
        y.pass(5);
        y.probe(2, 1, 1, 1);
        y.setRule(3, 1);
        y.share(1);
        Check.is("promise 51: reports that are too old stay", y.reports(0), 3);
        Check.is("promise 48: until time passes", y.pass(1) + " " + y.reports(0) + " " + Check.list(y, 2),
                "6 0 2 2 0 1 5 1 1;");
        Check.is("promise 48: messages stay", y.property(8), 2);
        Check.is("promise 48: trust stays", y.trust(0, 1), 8);
    }

    private static void link() {
        PathTrust x = told();
        Check.is("promise 49: a new one", x.link(3, 0, true), false);
        Check.is("promise 49: the trust 5", x.trust(3, 0) + " " + x.trust(0, 3) + " " + x.property(9), "5 5 4");
        Check.is("promise 49: there is one", x.link(0, 1, true), true);
        Check.is("promise 49: its trust stays", x.trust(0, 1) + " " + x.trust(1, 0), "8 8");
        Check.is("promise 49: an end", x.link(1, 0, false), true);
        Check.is("promise 49: of both ways", x.trust(0, 1) + " " + x.trust(1, 0) + " " + x.property(9), "-1 -1 3");
        Check.is("promise 49: there was none", x.link(0, 1, false), false);
        Check.is("promise 49: the reports stay", x.reports(0), 3);
        Check.is("promise 49: again", x.link(0, 1, true) + " " + x.trust(0, 1), "false 5");
        Check.is("promise 49: all can be undone", x.undoCount(), 6);
        Check.fails("promise 49: the same", x, Check.ARGUMENT, () -> x.link(1, 1, true));
        Check.fails("promise 49: the same", x, Check.ARGUMENT, () -> x.link(1, 1, false));
        Check.fails("promise 49: agent", x, Check.INDEX, () -> x.link(4, 0, true));
        Check.fails("promise 49: other", x, Check.INDEX, () -> x.link(0, 4, false));
        Check.fails("promise 49: agent -1", x, Check.INDEX, () -> x.link(-1, 0, true));
        Check.fails("promise 49: other -1", x, Check.INDEX, () -> x.link(0, -1, true));
        Check.fails("promise 49: no agent before the same", x, Check.INDEX, () -> x.link(4, 4, true));
        Check.fails("promise 49: no agent before the same", x, Check.INDEX, () -> x.link(-1, -1, true));
    }

    private static void setTrust() {
        PathTrust x = told();
        Check.is("promise 50: the previous one", x.setTrust(0, 1, 0) + " " + x.setTrust(0, 1, 10), "8 0");
        Check.is("promise 50: of the first one in the other one", x.trust(0, 1) + " " + x.trust(1, 0), "10 8");
        Check.fails("promise 50: 11", x, Check.ARGUMENT, () -> x.setTrust(0, 1, 11));
        Check.fails("promise 50: -1", x, Check.ARGUMENT, () -> x.setTrust(0, 1, -1));
        Check.fails("promise 50: no link", x, Check.STATE, () -> x.setTrust(0, 3, 5));
        Check.fails("promise 50: itself", x, Check.STATE, () -> x.setTrust(0, 0, 5));
        Check.fails("promise 50: trust before link", x, Check.ARGUMENT, () -> x.setTrust(0, 3, 11));
        Check.fails("promise 50: agent before trust", x, Check.INDEX, () -> x.setTrust(4, 0, 11));
        Check.fails("promise 50: other before trust", x, Check.INDEX, () -> x.setTrust(0, 4, 11));
        Check.fails("promise 50: agent -1", x, Check.INDEX, () -> x.setTrust(-1, 0, 5));
        Check.fails("promise 50: other -1", x, Check.INDEX, () -> x.setTrust(0, -1, 5));
    }

    private static void setRule() {
        PathTrust x = new PathTrust();
        int[] previous = {1, 2, 3, 50, 2};
        int[] least = {0, 0, 0, 1, 1};
        int[] most = {20, 50, 10, 99, 3};
        for (int what = 0; what < 5; what++) {
            int rule = what;
            Check.is("promise 51: previous " + rule, x.setRule(rule, least[rule]), previous[rule]);
            Check.is("promise 51: least " + rule, x.setRule(rule, most[rule]), least[rule]);
            Check.is("promise 51: most " + rule, x.property(3 + rule), most[rule]);
            Check.fails("promise 51: too little", x, Check.ARGUMENT, () -> x.setRule(rule, least[rule] - 1));
            Check.fails("promise 51: too much", x, Check.ARGUMENT, () -> x.setRule(rule, most[rule] + 1));
        }
        Check.fails("promise 51: what 5", x, Check.ARGUMENT, () -> x.setRule(5, 1));
        Check.fails("promise 51: what -1", x, Check.ARGUMENT, () -> x.setRule(-1, 1));
        Check.fails("promise 51: what", x, Check.ARGUMENT, () -> x.setRule(Integer.MIN_VALUE, 1));
    }

    private static void forget() {
        PathTrust x = told();
        x.probe(0, 0, 1, 2);
        Check.is("promise 52: all of a way", x.forget(0, 0), 3);
        Check.is("promise 52: those of the other stay", Check.list(x, 0), "2 2 1 1 0 20 30;");
        Check.is("promise 52: none", x.forget(0, 0) + " " + x.forget(1, 1), "0 0");
        Check.is("promise 52: of others they stay", x.reports(1) + " " + x.reports(2), "1 2");
        Check.fails("promise 52: agent", x, Check.INDEX, () -> x.forget(4, 0));
        Check.fails("promise 52: agent -1", x, Check.INDEX, () -> x.forget(-1, 0));
        Check.fails("promise 52: way", x, Check.INDEX, () -> x.forget(0, 2));
        Check.fails("promise 52: way -1", x, Check.INDEX, () -> x.forget(0, -1));
    }

    private static void cleanse() {
        PathTrust x = told();
        Check.is("contradicted", x.contradicted(0, 0), 4);
        x.probe(0, 1, 500, 500);
        x.setTrust(0, 2, 3);
        // c's of x is 176-264 beside b's 146-164, c's of y is 6-44 beside 500.
        Check.is("contradicted", x.contradicted(0, 0) + " " + x.contradicted(0, 1), "4 4");
        Check.is("promise 53: of all ways", x.cleanse(0), 2);
        Check.is("promise 53: what stays", Check.list(x, 0), "1 1 1 0 0 150 160;0 0 0 1 0 500 500;");
        Check.is("promise 53: none", x.cleanse(0), 0);
        PathTrust y = told();
        y.setTrust(0, 2, 2);
        Check.is("promise 53: left out is not contradicted", y.cleanse(0), 0);
        Check.is("promise 53: of another agent", y.cleanse(2) + " " + y.reports(2), "0 2");
        Check.fails("promise 53: agent", x, Check.INDEX, () -> x.cleanse(4));
        Check.fails("promise 53: agent -1", x, Check.INDEX, () -> x.cleanse(-1));
    }

    private static void wrongInputs() {
        PathTrust x = told();
        for (int n : new int[] {-1, 4, Integer.MIN_VALUE, Integer.MAX_VALUE}) {
            Check.fails("promise 42: agent", x, Check.INDEX, () -> x.probe(n, 0, 9, 8));
            Check.fails("promise 43: agent", x, Check.INDEX, () -> x.share(n));
            Check.fails("promise 44: agent", x, Check.INDEX, () -> x.relay(n));
        }
        Check.fails("promise 42: way", x, Check.INDEX, () -> x.probe(0, 2, 9, 8));
        Check.fails("promise 42: way -1", x, Check.INDEX, () -> x.probe(0, -1, 9, 8));
        int[][] bounds = {{-1, 5}, {9, 8}, {0, 1000}, {1000, 1000}, {1000, 999}, {5, Integer.MIN_VALUE}};
        for (int[] b : bounds) {
            Check.fails("promise 42: bounds", x, Check.ARGUMENT, () -> x.probe(0, 0, b[0], b[1]));
        }
        for (int n : new int[] {-1, 0, 101, Integer.MIN_VALUE, Integer.MAX_VALUE}) {
            Check.fails("promise 45: many", x, Check.ARGUMENT, () -> x.deliver(n));
        }
        for (int n : new int[] {-1, 0, 7, Integer.MIN_VALUE, Integer.MAX_VALUE}) {
            Check.fails("promise 47: rounds", x, Check.ARGUMENT, () -> x.exchange(n));
        }
        for (int n : new int[] {-1, 0, 100, Integer.MIN_VALUE, Integer.MAX_VALUE}) {
            Check.fails("promise 48: ticks", x, Check.ARGUMENT, () -> x.pass(n));
        }
        Check.is("the constant", NONE, -1);
    }
}
