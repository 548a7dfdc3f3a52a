/** Promises 1 to 8: a new object, the input buffer, texts and their errors, names. */
public final class InputTest {
    private static final String RULES = "rules drift 1 slack 2 least 3 age 50 hops 2;";
    private static final String AB = RULES + "agent a;agent b;way x;";

    public static void main(String[] args) {
        newObject();
        append();
        truncate();
        load();
        loadProbes();
        errorsOfRules();
        errorsOfNames();
        errorsOfLinks();
        errorsOfProbes();
        errorsOfTokens();
        failedLoad();
        find();
        Check.end("InputTest");
    }

    private static void newObject() {
        PathTrust x = new PathTrust();
        int[] due = {0, 0, 0, 1, 2, 3, 50, 2, 0, 0};
        for (int what = 0; what < due.length; what++) {
            Check.is("promise 1: property " + what, x.property(what), due[what]);
        }
        Check.is("promise 1: input", Check.inputLength(x), 0);
        Check.is("promise 1: output", Check.output(x), "");
        Check.is("promise 1: undoCount", x.undoCount(), 0);
        Check.is("promise 5: no load", x.errorCode(), 0);
        Check.is("promise 6: no load", x.errorPosition(), PathTrust.NONE);
        Check.fails("promise 1: slot 0 is empty", x, Check.STATE, () -> x.restore(0));
        Check.fails("promise 1: slot 1 is empty", x, Check.STATE, () -> x.restore(1));
        Check.is("the constants", PathTrust.NONE + " " + PathTrust.PARSE_ERROR, "-1 -4");
    }

    private static void append() {
        PathTrust x = new PathTrust();
        for (int i = 1; i <= 30; i++) {
            Check.is("promise 2: append " + i, x.append(-1, i, 0, 0, 0), i * 20);
        }
        Check.fails("promise 2: 620 bytes", x, Check.STATE, () -> x.append(0, 0, 0, 0, 0));
        x.truncate(581);
        Check.fails("promise 2: 601 bytes", x, Check.STATE, () -> x.append(0, 0, 0, 0, 0));
        x.truncate(580);
        Check.is("promise 2: 600 bytes", x.append(0, 0, 0, 0, 0), 600);
        // The order of the bytes: "rules drift 0 slack " and so on.
        x.truncate(0);
        x.append(0x72756c65, 0x73206472, 0x69667420, 0x37207c6b, 0);
        Check.is("promise 2: the first byte is the most significant one", x.load(), PathTrust.PARSE_ERROR);
        Check.is("promise 2: the error is at |", x.errorPosition(), 14);
    }

    private static void truncate() {
        PathTrust x = new PathTrust();
        x.append(0, 0, 0, 0, 0);
        Check.fails("promise 3: -1", x, Check.ARGUMENT, () -> cut(x, -1));
        Check.fails("promise 3: 21", x, Check.ARGUMENT, () -> cut(x, 21));
        Check.fails("promise 3: the least int", x, Check.ARGUMENT, () -> cut(x, Integer.MIN_VALUE));
        Check.is("promise 3: 20", cut(x, 20), 20);
        Check.is("promise 3: 7", cut(x, 7), 7);
        Check.fails("promise 3: 8 of 7", x, Check.ARGUMENT, () -> cut(x, 8));
        Check.is("promise 3: and append", x.append(0, 0, 0, 0, 0), 27);
        Check.is("promise 3: 0", cut(x, 0), 0);
        Check.is("promise 3: it is not to be undone", x.undoCount(), 0);
    }

    private static int cut(PathTrust x, int length) {
        x.truncate(length);
        return Check.inputLength(x);
    }

    private static void load() {
        PathTrust x = new PathTrust();
        Check.is("promise 4: rules alone", Check.load(x, "rules drift 20 slack 50 least 10 age 99 hops 3;"), 0);
        Check.is("promise 4: the greatest rules", rules(x), "20 50 10 99 3");
        Check.is("promise 4: the buffer is empty", Check.inputLength(x), 0);
        Check.is("promise 4: the least rules", Check.load(x, "rules drift 0 slack 0 least 0 age 1 hops 1;"), 0);
        Check.is("promise 4: the least rules", rules(x), "0 0 0 1 1");
        Check.is("promise 4: it can be undone", x.undoCount(), 2);
        String six = RULES + "agent a;agent b;agent c;agent d;agent e;agent abcdef;way a;way b;way c;way d;way e;way f;";
        Check.is("promise 4: six agents and ways", Check.load(x, six), 6);
        Check.is("promise 4: six ways", x.property(1), 6);
        Check.is("promise 4: blanks", Check.load(x, "\n " + RULES.replace(" ", " \n") + " \nagent\nq ;\n"), 1);
        Check.is("promise 4: no blanks", Check.load(x, "rules drift1slack2least3age50hops002;agent q;"), 1);
        String links = AB + "agent c;link a b;link c a trust 0;link b c trust 10;";
        Check.is("promise 4: links", Check.load(x, links), 3);
        Check.is("promise 4: trusts", "" + x.trust(0, 1) + x.trust(1, 0) + " " + x.trust(2, 0) + x.trust(0, 2)
                + " " + x.trust(1, 2) + x.trust(2, 1), "55 00 1010");
        Check.is("promise 9: links", x.property(9), 3);
        Check.is("promise 4: a text of 600 bytes", Check.load(x, full(links)), 3);
    }

    private static String full(String text) {
        StringBuilder full = new StringBuilder(text);
        while (full.length() < 600) {
            full.insert(0, ' ');
        }
        return full.toString();
    }

    private static String rules(PathTrust x) {
        return x.property(3) + " " + x.property(4) + " " + x.property(5) + " " + x.property(6) + " " + x.property(7);
    }

    private static void loadProbes() {
        PathTrust x = Check.made(AB + "way y;probe a x 0 999;probe b y 7 7;probe a y 1 2;probe a x 0000000000005 9;");
        Check.is("promise 4: a probe again comes to the end", Check.list(x, 0), "0 0 0 1 0 1 2;0 0 0 0 0 5 9;");
        Check.is("promise 4: probes are counted", x.account(0, 0) + " " + x.account(1, 0), "3 1");
        x.link(0, 1, true);
        x.share(0);
        x.keep(0);
        x.pass(7);
        x.writeBeliefs(0);
        // What is tried out for a question must not come to the text.
        x.beliefIf(0, 0, 5, 6, 0);
        String output = Check.output(x);
        Check.is("promise 4: a second text", Check.load(x, AB), 2);
        Check.is("promise 4: time, queue and links are those of the text",
                x.property(2) + " " + x.property(8) + " " + x.property(9), "0 0 0");
        Check.is("promise 4: reports and accounts, too", x.reports(0) + " " + x.account(0, 0), "0 0");
        Check.is("promise 4: the output buffer stays", Check.output(x), output);
        Check.is("promise 4: the slot stays", x.restore(0), 0);
        Check.is("promise 4: what was kept", x.property(8), 2);
    }

    private static void error(String text, int code, int position) {
        PathTrust x = new PathTrust();
        Check.is("promise 4: " + text, Check.load(x, text), PathTrust.PARSE_ERROR);
        Check.is("promise 5: " + text, x.errorCode(), code);
        Check.is("promise 6: " + text, x.errorPosition(), position);
    }

    /** The error is at the mark | of the text, which is taken out. */
    private static void error(String marked, int code) {
        int position = marked.indexOf('|');
        error(marked.substring(0, position) + marked.substring(position + 1), code, position);
    }

    private static void errorsOfRules() {
        error("", 1, 0);
        error(" \n ", 1, 3);
        error("|agent a;", 1);
        error("|;", 1);
        error("|5", 1);
        error("|rule drift 1 slack 2 least 3 age 50 hops 2;", 1);
        error("rules |slack 1;", 1);
        error("rules drift |;", 1);
        error("rules drift |x", 1);
        error("rules drift |21 slack", 2);
        error("rules drift 20 slack |51", 2);
        error("rules drift 20 slack 50 least |11", 2);
        error("rules drift 20 slack 50 least 10 age |0", 2);
        error("rules drift 20 slack 50 least 10 age |100", 2);
        error("rules drift 20 slack 50 least 10 age 99 hops |0", 2);
        error("rules drift 20 slack 50 least 10 age 99 hops |4", 2);
        error("rules drift 20 slack 50 least 10 age 99 hops 3|", 1);
        error("rules drift 20 slack 50 least 10 age 99 hops 3 |,", 1);
        error("rules drift 20 slack 50 least |age", 1);
        error("rules drift |-1", 1);
        error("rules drift |99999999999999999999999999999999999999999999", 2);
        error("rules drift |4294967297 slack", 2);
        error(RULES + "|" + RULES, 1);
        error(AB + "|rules", 1);
    }

    private static void errorsOfNames() {
        error(RULES + "agent |;", 1);
        error(RULES + "agent a|", 1);
        error(RULES + "agent a |b;", 1);
        error(RULES + "agent |7;", 1);
        error(RULES + "agent |abcdefg;", 1);
        error(RULES + "way |abcdefghijklmnopqrstuvwxyz;", 1);
        for (String keyword : "rules drift slack least age hops agent way link trust probe".split(" ")) {
            error(RULES + "agent |" + keyword + ";", 1);
            error(RULES + "way |" + keyword + ";", 1);
            error(RULES + "agent a;agent b;link a |" + keyword + ";", 1);
        }
        error(AB + "agent |a;", 3);
        error(AB + "agent |b;", 3);
        error(AB + "way |x;", 3);
        String agents = RULES + "agent a;agent b;agent c;agent d;agent e;agent f;";
        error(agents + "|agent g;", 4);
        error(agents + "|agent a;", 4);
        error(agents + "|agent", 4);
        String ways = RULES + "way a;way b;way c;way d;way e;way f;";
        error(ways + "agent g;|way g;", 4);
        Check.made(ways + "agent a;agent f;");
        Check.made(RULES + "agent aa;agent a;agent aaaaaa;agent hop;agent agents;agent z;");
    }

    private static void errorsOfLinks() {
        error(AB + "link |c a;", 3);
        error(AB + "link |x a;", 3);
        error(AB + "link a |c;", 3);
        error(AB + "link a |a;", 3);
        error(AB + "link a b;link a |b;", 3);
        error(AB + "link a b;link b |a trust 5;", 3);
        error(AB + "link a |abcdefg;", 1);
        error(AB + "link |;", 1);
        error(AB + "link a |;", 1);
        error(AB + "link a b |trusty 5;", 1);
        error(AB + "link a b |5;", 1);
        error(AB + "link a b trust |;", 1);
        error(AB + "link a b trust |11;", 2);
        error(AB + "link a b trust 10 |trust 10;", 1);
        error(AB + "link a b|", 1);
        error(RULES + "agent a;link a |b;agent b;", 3);
    }

    private static void errorsOfProbes() {
        error(AB + "probe |x x 1 2;", 3);
        error(AB + "probe |c x 1 2;", 3);
        error(AB + "probe a |a 1 2;", 3);
        error(AB + "probe a |xx 1 2;", 3);
        error(AB + "probe |abcdefg x 1 2;", 1);
        error(AB + "probe a |way 1 2;", 1);
        error(AB + "probe a x |;", 1);
        error(AB + "probe a x |1000 2;", 2);
        error(AB + "probe a x 5 |4;", 2);
        error(AB + "probe a x 5 |1000;", 2);
        error(AB + "probe a x 5 |;", 1);
        error(AB + "probe a x 5 5 |5;", 1);
        error(AB + "probe a x 999 999|", 1);
    }

    private static void errorsOfTokens() {
        error("|Rules", 1);
        error("|bules drift 1 slack 2 least 3 age 50 hops 2;", 1);
        error("rules |erift 1 slack 2 least 3 age 50 hops 2;", 1);
        error("rules drift 1 slack 2 least 3 age 50 |xops 2;", 1);
        error(RULES + "|bgent a;", 1);
        error(RULES + "|xay a;", 1);
        error(AB + "|pink a b;", 1);
        error(AB + "|brobe a x 1 2;", 1);
        error(AB + "|probf a x 1 2;", 1);
        error(AB + "link a b |brust 1;", 1);
        error("|\trules", 1);
        error("|\u00e9", 1);
        error("|\u0000", 1);
        error(RULES + "|;", 1);
        error(RULES + "agent a|_b;", 1);
        error(RULES + "agent a|\r;", 1);
        error(RULES + "|agenta;", 1);
        error(RULES + "agent a|1;", 1);
        error(RULES + "link|1", 1);
        error(RULES + "|trust 5;", 1);
        error(AB + "|a b;", 1);
    }

    private static void failedLoad() {
        PathTrust x = Check.made(AB + "link a b;probe a x 1 2;");
        x.share(0);
        String before = Check.state(x);
        Check.is("promise 4: a parse error", Check.load(x, AB + "way |y;"), PathTrust.PARSE_ERROR);
        int position = AB.length() + 4;
        Check.is("promise 4: only the parse error changes", Check.state(x),
                before.replace("error 0 -1", "error 1 " + position));
        Check.is("promise 4: the names stay", Check.findWay(x, "x") + " " + Check.findWay(x, "y"), "0 -1");
        Check.is("promise 5: behind a good text", Check.load(x, AB) + " " + x.errorCode(), "2 0");
        Check.is("promise 6: behind a good text", x.errorPosition(), PathTrust.NONE);
    }

    private static void find() {
        PathTrust x = Check.made(RULES + "agent abcdef;agent z;agent az;way az;way zz;");
        Check.is("promise 7: abcdef", Check.findAgent(x, "abcdef"), 0);
        Check.is("promise 7: the buffer is empty", Check.inputLength(x), 0);
        Check.is("promise 7: z", Check.findAgent(x, "z"), 1);
        Check.is("promise 7: az", Check.findAgent(x, "az"), 2);
        Check.is("promise 8: az", Check.findWay(x, "az"), 0);
        Check.is("promise 8: zz", Check.findWay(x, "zz"), 1);
        String[] none = {"", "zz", "z ", " z", "Z", "abcdefg", "abcde", "zaz", "z\n", "z\u0000", "agent", "\u00fa",
            "dabcdef", "habcdef", "`z", "\u009a", "a{", "bA"};
        for (String name : none) {
            Check.is("promise 7: none is " + name, Check.findAgent(x, name), PathTrust.NONE);
            Check.is("promise 7: the buffer is empty", Check.inputLength(x), 0);
        }
        for (String name : new String[] {"", "z", "abcdef", "az ", "aza"}) {
            Check.is("promise 8: none is " + name, Check.findWay(x, name), PathTrust.NONE);
            Check.is("promise 8: the buffer is empty", Check.inputLength(x), 0);
        }
        Check.is("promises 7 and 8: nothing to undo", x.undoCount(), 1);
        PathTrust fresh = new PathTrust();
        Check.is("promise 7: no agents", Check.findAgent(fresh, "a"), PathTrust.NONE);
        Check.is("promise 8: no ways", Check.findWay(fresh, "a"), PathTrust.NONE);
    }
}
