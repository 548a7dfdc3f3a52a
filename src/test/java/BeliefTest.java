/** Promises 20 to 31: what agents believe, and what they would choose by that. */
public final class BeliefTest {
    private static final int NONE = PathTrust.NONE;
    private static final String STAR = "rules drift 1 slack 2 least 3 age 20 hops 2;agent a;agent b;agent c;agent d;"
            + "way x;way y;link a b trust 8;link a c trust 6;link a d trust 6;"
            + "probe a x 100 200;probe b x 150 160;probe c x 190 250;probe d x 300 400;";

    public static void main(String[] args) {
        belief();
        order();
        leftOut();
        sets();
        majority();
        best();
        rivals();
        nextProbe();
        regret();
        saved();
        agreeing();
        common();
        indexes();
        Check.end("BeliefTest");
    }

    /** Behind it a trusts b 9, c 7 and d 4. */
    private static PathTrust star() {
        PathTrust x = Check.made(STAR);
        x.share(1);
        x.share(2);
        x.share(3);
        Check.is("all are delivered", x.deliver(100), 3);
        return x;
    }

    private static void belief() {
        PathTrust x = star();
        Check.is("trust", x.trust(0, 1) + " " + x.trust(0, 2) + " " + x.trust(0, 3), "9 7 4");
        Check.is("promise 20: own, then b's 148-162", Check.belief(x, 0, 0), "148-162");
        Check.is("promise 20: nothing known", Check.belief(x, 0, 1), "0-999");
        Check.is("promise 20: own alone", Check.belief(x, 3, 0), "300-400");
        x.pass(10);
        Check.is("promise 20: 138-172 behind 10 ticks", Check.belief(x, 0, 0), "138-172");
        x.pass(8);
        // own 82-218, b 130-180, c 166-274.
        Check.is("promise 20: c's is taken, too", Check.belief(x, 0, 0), "166-180");
        x.link(0, 1, false);
        Check.is("promise 20: without b", Check.belief(x, 0, 0), "166-218");
        x.forget(0, 0);
        Check.is("promise 20: nothing left", Check.belief(x, 0, 0), "0-999");
        PathTrust y = Check.made(STAR);
        y.forget(0, 0);
        y.share(3);
        y.deliver(1);
        Check.is("promise 20: no own one, 300-400 and 2 * 4", Check.belief(y, 0, 0), "292-408");
        y.pass(20);
        y.setRule(1, 50);
        Check.is("promise 20: to 0 and 999 at most", Check.belief(y, 0, 0), "80-620");
        y.setRule(0, 20);
        Check.is("promise 20: to 0 and 999 at most", Check.belief(y, 0, 0), "0-999");
    }

    private static void order() {
        String text = "rules drift 0 slack 0 least 0 age 20 hops 3;agent a;agent b;agent c;agent d;agent e;way x;"
                + "link a b;link b c;link a d;link b e;";
        PathTrust x = Check.made(text + "probe c x 10 20;probe d x 500 510;probe e x 700 710;");
        x.share(4);
        x.deliver(1);
        x.relay(1);
        x.deliver(100);
        Check.is("e's via b", Check.list(x, 0), "4 1 2 0 0 700 710;");
        x.share(2);
        x.deliver(1);
        x.relay(1);
        x.deliver(100);
        Check.is("c's behind it", Check.list(x, 0), "4 1 2 0 0 700 710;2 1 2 0 0 10 20;");
        Check.is("order by origins", Check.belief(x, 0, 0), "10-20");
        x.share(3);
        x.deliver(1);
        Check.is("order by hops before origins", Check.belief(x, 0, 0), "500-510");
        x.setTrust(0, 1, 6);
        Check.is("order by trust before hops", Check.belief(x, 0, 0), "10-20");
        x.setTrust(0, 1, 10);
        x.probe(0, 0, 700, 700);
        Check.is("the own one first", Check.belief(x, 0, 0), "700-700");
        Check.is("e's agrees", x.sources(0, 0) + " " + x.contradicted(0, 0), "17 12");
    }

    private static void leftOut() {
        PathTrust x = star();
        x.setRule(2, 9);
        Check.is("promise 20: trust 9 is enough", Check.belief(x, 0, 0), "148-162");
        x.setRule(2, 10);
        Check.is("promise 20: trust 9 is too little", Check.belief(x, 0, 0), "100-200");
        Check.is("promise 21: left out", x.sources(0, 0), 1);
        Check.is("promise 22: left out", x.contradicted(0, 0), 0);
        Check.is("promise 23: left out", x.majority(0, 0), 1);
        x.setRule(2, 0);
        x.setTrust(0, 1, 0);
        // It is the last one then: c's made the belief 184-200, and it is 130-180.
        Check.is("promise 20: trust 0 and the least trust 0", x.status(0, 1), 1);
        x.link(0, 1, false);
        Check.is("promise 20: no link and the least trust 0", x.status(0, 1), 2);
        x.forget(0, 0);
        x.setRule(2, 10);
        x.share(2);
        x.deliver(1);
        Check.is("all are left out", x.reports(0) + " " + x.status(0, 0), "1 2");
        Check.is("promise 23: all are left out", x.majority(0, 0), 0);
        Check.is("promise 24: all are left out", x.majorityBound(0, 0, 0) + " " + x.majorityBound(0, 0, 1), "-1 -1");
    }

    private static void sets() {
        PathTrust x = star();
        Check.is("promise 21", x.sources(0, 0), 3);
        Check.is("promise 22", x.contradicted(0, 0), 12);
        Check.is("promise 21: none", x.sources(0, 1), 0);
        Check.is("promise 22: none", x.contradicted(0, 1), 0);
        x.pass(18);
        Check.is("promise 21: c's, too", x.sources(0, 0), 7);
        Check.is("promise 22: d's", x.contradicted(0, 0), 8);
        // c's moved low bound is put right at the high one of what is believed: 1 * 18 + 2 * 3 = 24.
        x.setTrust(0, 1, 10);
        x.setTrust(0, 2, 10);
        Check.is("promise 20: own 82-218, b 132-178, c 172-268", Check.belief(x, 0, 0), "172-178");
        x.setRule(0, 0);
        x.probe(0, 0, 150, 190);
        x.forget(0, 1);
        x.setTrust(0, 1, 0);
        x.setTrust(0, 2, 10);
        Check.is("promise 20: one number in common", Check.belief(x, 0, 0), "190-190");
        x.probe(0, 0, 150, 189);
        x.setTrust(0, 2, 10);
        Check.is("promise 20: one number less", Check.belief(x, 0, 0), "150-189");
    }

    private static void majority() {
        PathTrust x = star();
        Check.is("promise 23: a b before a c", x.majority(0, 0), 3);
        Check.is("promise 24", x.majorityBound(0, 0, 0) + "-" + x.majorityBound(0, 0, 1), "148-162");
        Check.is("promise 23: none", x.majority(0, 1), 0);
        Check.is("promise 24: none", x.majorityBound(0, 1, 0) + " " + x.majorityBound(0, 1, 1), "-1 -1");
        x.setTrust(0, 3, 8);
        x.setTrust(0, 2, 3);
        // c's is 176-264 now, d's 296-404.
        x.probe(0, 0, 900, 999);
        Check.is("trusts", x.trust(0, 1) + " " + x.trust(0, 2) + " " + x.trust(0, 3), "7 1 6");
        x.setRule(2, 0);
        // own 900-999, b 144-166, c 172-268, d 292-408.
        Check.is("promise 23: of sets of one the least", x.majority(0, 0), 1);
        Check.is("promise 24: of one", x.majorityBound(0, 0, 0) + "-" + x.majorityBound(0, 0, 1), "900-999");
        x.setRule(1, 6);
        // b 132-178, c 136-304, d 276-424.
        Check.is("promise 23: b c before c d, and not the own one", x.majority(0, 0), 6);
        Check.is("promise 24: b c", x.majorityBound(0, 0, 0) + "-" + x.majorityBound(0, 0, 1), "136-178");
        Check.is("promise 22: it is another thing", x.sources(0, 0) + " " + x.contradicted(0, 0), "1 14");
        x.link(0, 1, false);
        Check.is("promise 23: c d", x.majority(0, 0), 12);
        Check.is("promise 24: c d", x.majorityBound(0, 0, 0) + "-" + x.majorityBound(0, 0, 1), "276-304");
        x.setRule(1, 17);
        // c 37-403, d 232-468.
        x.probe(0, 0, 403, 403);
        x.setTrust(0, 2, 1);
        x.setTrust(0, 3, 6);
        Check.is("promise 23: three in one number", x.majority(0, 0), 13);
        Check.is("promise 24: one number", x.majorityBound(0, 0, 0) + "-" + x.majorityBound(0, 0, 1), "403-403");
        x.probe(0, 1, 0, 999);
        Check.is("promise 23: of another way", x.majority(0, 1), 1);
        Check.is("promise 24: of this one behind that", x.majorityBound(0, 0, 0), 403);
        Check.is("promise 24: 0 to 999", x.majorityBound(0, 1, 0) + "-" + x.majorityBound(0, 1, 1), "0-999");
    }

    private static final String FOUR = "rules drift 0 slack 0 least 0 age 20 hops 1;agent a;agent b;"
            + "way p;way q;way r;way s;link a b;";

    private static void best() {
        PathTrust x = Check.made(FOUR);
        Check.is("promise 25: all alike", x.best(0, 0) + " " + x.best(0, 1) + " " + x.best(0, 2), "0 0 0");
        x.probe(0, 0, 300, 400);
        x.probe(0, 1, 200, 350);
        x.probe(0, 2, 100, 451);
        x.probe(0, 3, 100, 450);
        Check.is("promise 25", x.best(0, 0) + " " + x.best(0, 1) + " " + x.best(0, 2), "1 2 1");
        x.probe(0, 3, 350, 350);
        x.probe(0, 2, 99, 451);
        Check.is("promise 25: the lowest one of two", x.best(0, 0) + " " + x.best(0, 2), "1 1");
        x.probe(0, 3, 0, 549);
        x.probe(0, 1, 300, 350);
        x.probe(0, 2, 301, 349);
        Check.is("promise 25: the least sum is another's", x.best(0, 0) + " " + x.best(0, 1) + " " + x.best(0, 2), "2 3 3");
        x.probe(0, 1, 200, 350);
        x.probe(0, 2, 99, 451);
        x.probe(0, 3, 99, 349);
        Check.is("promise 25", x.best(0, 0) + " " + x.best(0, 1) + " " + x.best(0, 2), "3 2 3");
        PathTrust none = Check.made("rules drift 0 slack 0 least 0 age 20 hops 1;agent a;");
        Check.is("promise 25: no ways", none.best(0, 0) + " " + none.best(0, 1) + " " + none.best(0, 2), "-1 -1 -1");
        Check.is("promise 26: no ways", none.rivals(0), 0);
        Check.is("promise 27: no ways", none.nextProbe(0), NONE);
        Check.is("promise 28: no ways", none.regret(0), NONE);
        Check.is("promise 29: no ways", none.saved(0), 0);
        Check.is("promise 30: no ways", none.agreeing(0, 0), 0);
        Check.fails("promise 25: rule 3", x, Check.ARGUMENT, () -> x.best(0, 3));
        Check.fails("promise 25: rule -1", x, Check.ARGUMENT, () -> x.best(0, -1));
        Check.fails("promise 25: agent before rule", x, Check.INDEX, () -> x.best(2, 3));
    }

    private static void rivals() {
        PathTrust x = Check.made(FOUR);
        Check.is("promise 26: all alike", x.rivals(0), 14);
        x.probe(0, 0, 300, 400);
        x.probe(0, 1, 200, 350);
        x.probe(0, 2, 349, 999);
        x.probe(0, 3, 350, 360);
        Check.is("promise 26: less than 350", x.rivals(0), 5);
        x.probe(0, 2, 350, 350);
        Check.is("promise 26: another way with the same high bound", x.rivals(0), 1);
        x.probe(0, 0, 10, 20);
        Check.is("promise 26: none", x.rivals(0), 0);
        Check.is("promise 26: of another agent", x.rivals(1), 14);
        x.probe(0, 0, 0, 30);
        x.probe(0, 1, 10, 20);
        x.probe(0, 2, 25, 999);
        x.probe(0, 3, 20, 999);
        Check.is("promise 26: the best one is that by the high bound", x.rivals(0), 1);
        Check.is("promise 27: the best one is that by the high bound", x.nextProbe(0), 0);
    }

    private static void nextProbe() {
        PathTrust x = Check.made(FOUR);
        Check.is("promise 27: all alike", x.nextProbe(0), 0);
        x.probe(0, 0, 300, 420);
        x.probe(0, 1, 200, 350);
        x.probe(0, 2, 330, 999);
        x.probe(0, 3, 350, 999);
        Check.is("promise 27: a rival", x.nextProbe(0), 2);
        x.probe(0, 2, 330, 480);
        Check.is("promise 27: the best one, the lowest one of two", x.nextProbe(0), 1);
        x.probe(0, 0, 300, 450);
        Check.is("promise 27: a rival, the lowest one of three", x.nextProbe(0), 0);
        x.probe(0, 1, 100, 110);
        Check.is("promise 27: no rivals", x.nextProbe(0), NONE);
        x.probe(0, 0, 109, 109);
        Check.is("promise 27: of bounds that are not apart", x.nextProbe(0), 1);
        x.probe(0, 0, 109, 119);
        Check.is("promise 27: the lowest one", x.nextProbe(0), 0);
    }

    private static void regret() {
        PathTrust x = Check.made(FOUR);
        Check.is("promise 28: nothing known", x.regret(0), 999);
        x.probe(0, 0, 300, 420);
        Check.is("promise 28: 420 - 0", x.regret(0), 420);
        x.probe(0, 1, 200, 350);
        x.probe(0, 2, 150, 999);
        x.probe(0, 3, 350, 999);
        Check.is("promise 28: 350 - 150", x.regret(0), 200);
        x.probe(0, 2, 349, 349);
        Check.is("promise 28: 349 - 200", x.regret(0), 149);
        x.probe(0, 0, 7, 7);
        Check.is("promise 28: 7 - 7", x.regret(0), 0);
    }

    private static void saved() {
        PathTrust x = Check.made(FOUR);
        x.probe(0, 0, 300, 420);
        x.probe(1, 0, 300, 420);
        x.probe(1, 1, 0, 998);
        x.probe(1, 2, 1, 999);
        x.probe(1, 3, 0, 999);
        x.share(1);
        x.deliver(100);
        Check.is("promise 29: q and r", x.saved(0), 2);
        Check.is("promise 29: own ones only", x.saved(1), 0);
        x.probe(0, 1, 5, 5);
        Check.is("promise 29: r", x.saved(0), 1);
        x.setRule(0, 1);
        x.pass(1);
        Check.is("promise 29: r is 0-999 now", x.saved(0), 0);
        x.forget(0, 0);
        x.share(1);
        x.deliver(100);
        Check.is("promise 29: p is 299-421", x.saved(0) + " " + Check.belief(x, 0, 0), "1 299-421");
    }

    private static void agreeing() {
        PathTrust x = Check.made(FOUR);
        Check.is("promise 30: nothing known", x.agreeing(0, 1), 4);
        x.probe(0, 0, 300, 420);
        x.probe(1, 0, 420, 500);
        x.probe(0, 1, 300, 420);
        x.probe(1, 1, 421, 500);
        x.probe(0, 2, 300, 420);
        x.probe(1, 2, 100, 299);
        Check.is("promise 30", x.agreeing(0, 1) + " " + x.agreeing(1, 0), "2 2");
        Check.is("promise 30: with itself", x.agreeing(0, 0), 4);
        x.setRule(0, 1);
        x.pass(1);
        Check.is("promise 30: behind a tick", x.agreeing(0, 1), 4);
        Check.fails("promise 30: agent", x, Check.INDEX, () -> x.agreeing(2, 0));
        Check.fails("promise 30: other", x, Check.INDEX, () -> x.agreeing(0, 2));
        Check.fails("promise 30: agent -1", x, Check.INDEX, () -> x.agreeing(-1, 0));
        Check.fails("promise 30: other -1", x, Check.INDEX, () -> x.agreeing(0, -1));
    }

    private static String common(PathTrust x, int way) {
        return x.common(way, 0) + " " + x.common(way, 1);
    }

    private static void common() {
        PathTrust x = Check.made(FOUR);
        Check.is("promise 31: no own report", common(x, 0), "-1 -1");
        x.probe(0, 0, 300, 420);
        Check.is("promise 31: one", common(x, 0), "300 420");
        x.probe(1, 0, 420, 500);
        Check.is("promise 31: one number", common(x, 0), "420 420");
        x.probe(1, 0, 425, 500);
        Check.is("promise 31: no number", common(x, 0), "-1 -1");
        x.setRule(0, 3);
        x.pass(1);
        Check.is("promise 31: 297-423 and 422-503", common(x, 0), "422 423");
        x.probe(0, 0, 424, 424);
        Check.is("promise 31: each by its own age", common(x, 0), "424 424");
        x.share(0);
        x.deliver(100);
        x.forget(0, 0);
        Check.is("promise 31: own reports alone", common(x, 0), "422 503");
        x.probe(0, 1, 1, 998);
        x.pass(1);
        Check.is("promise 31: to 0 and 999 at most", common(x, 1), "0 999");
        Check.fails("promise 31: way 4", x, Check.INDEX, () -> x.common(4, 0));
        Check.fails("promise 31: way -1", x, Check.INDEX, () -> x.common(-1, 0));
        Check.fails("promise 31: way before end", x, Check.INDEX, () -> x.common(4, 2));
        Check.fails("promise 31: end 2", x, Check.ARGUMENT, () -> x.common(0, 2));
        Check.fails("promise 31: end -1", x, Check.ARGUMENT, () -> x.common(0, -1));
    }

    private static void indexes() {
        PathTrust x = star();
        int[][] wrong = {{4, 0}, {-1, 0}, {0, 2}, {0, -1}, {Integer.MIN_VALUE, 0}, {0, Integer.MAX_VALUE}};
        for (int[] w : wrong) {
            Check.fails("promise 20: index", x, Check.INDEX, () -> x.belief(w[0], w[1], 0));
            Check.fails("promise 20: index before end", x, Check.INDEX, () -> x.belief(w[0], w[1], 2));
            Check.fails("promise 21: index", x, Check.INDEX, () -> x.sources(w[0], w[1]));
            Check.fails("promise 22: index", x, Check.INDEX, () -> x.contradicted(w[0], w[1]));
            Check.fails("promise 23: index", x, Check.INDEX, () -> x.majority(w[0], w[1]));
            Check.fails("promise 24: index", x, Check.INDEX, () -> x.majorityBound(w[0], w[1], 0));
            Check.fails("promise 24: index before end", x, Check.INDEX, () -> x.majorityBound(w[0], w[1], -1));
        }
        for (int end : new int[] {2, -1, Integer.MAX_VALUE}) {
            Check.fails("promise 20: end", x, Check.ARGUMENT, () -> x.belief(0, 0, end));
            Check.fails("promise 24: end", x, Check.ARGUMENT, () -> x.majorityBound(0, 0, end));
            Check.fails("promise 24: end without reports", x, Check.ARGUMENT, () -> x.majorityBound(0, 1, end));
        }
        for (int agent : new int[] {4, -1, 31, 32}) {
            Check.fails("promise 25: agent", x, Check.INDEX, () -> x.best(agent, 0));
            Check.fails("promise 26: agent", x, Check.INDEX, () -> x.rivals(agent));
            Check.fails("promise 27: agent", x, Check.INDEX, () -> x.nextProbe(agent));
            Check.fails("promise 28: agent", x, Check.INDEX, () -> x.regret(agent));
            Check.fails("promise 29: agent", x, Check.INDEX, () -> x.saved(agent));
        }
    }
}
