/** Promises 58 to 60: what is written. */
public final class OutputTest {
    private static final String TEXT = "rules drift 1 slack 2 least 3 age 20 hops 2;agent a;agent abcdef;agent zz;"
            + "way x;way ymcaqw;way z;link a abcdef trust 8;link a zz trust 6;"
            + "probe a x 100 120;probe abcdef x 150 160;probe zz z 0 9;";

    public static void main(String[] args) {
        writeBeliefs();
        writeReports();
        longest();
        outputByte();
        Check.end("OutputTest");
    }

    private static void writeBeliefs() {
        PathTrust x = Check.made(TEXT);
        Check.is("promise 58: length", x.writeBeliefs(0), 30);
        Check.is("promise 58", Check.output(x), "x:100-120 ymcaqw:0-999 z:0-999");
        x.share(2);
        x.deliver(1);
        x.writeBeliefs(0);
        Check.is("promise 58: 0-9 and 2 * 4", Check.output(x), "x:100-120 ymcaqw:0-999 z:0-17");
        x.probe(1, 1, 7, 7);
        Check.is("promise 58: it replaces", x.writeBeliefs(1) + Check.output(x), "28x:150-160 ymcaqw:7-7 z:0-999");
        PathTrust none = Check.made("rules drift 0 slack 0 least 0 age 20 hops 1;agent a;");
        Check.is("promise 58: no ways", none.writeBeliefs(0) + Check.output(none), "0");
        Check.fails("promise 58: agent", x, Check.INDEX, () -> x.writeBeliefs(3));
        Check.fails("promise 58: agent -1", x, Check.INDEX, () -> x.writeBeliefs(-1));
        Check.is("promise 58: not to be undone", x.undoCount(), 4);
    }

    private static void writeReports() {
        PathTrust x = Check.made(TEXT);
        Check.is("promise 59: length", x.writeReports(0), 14);
        Check.is("promise 59: taken", Check.output(x), "a/x 100-120@0\n");
        x.share(1);
        x.deliver(100);
        x.pass(12);
        x.probe(2, 1, 0, 999);
        x.probe(2, 2, 10, 10);
        x.share(2);
        x.deliver(1);
        x.setTrust(0, 2, 2);
        x.deliver(1);
        x.probe(0, 2, 5, 5);
        Check.is("statuses", "" + x.status(0, 0) + x.status(0, 1) + x.status(0, 2) + x.status(0, 3), "0022");
        x.setRule(0, 0);
        x.probe(0, 0, 5, 100);
        x.setTrust(0, 1, 9);
        x.writeReports(0);
        Check.is("promise 59: contradicted, left out, taken", Check.output(x), "abcdef/x 150-160@0!\n"
                + "zz/ymcaqw 0-999@12?\nzz/z 10-10@12?\na/z 5-5@12\na/x 5-100@12\n");
        Check.is("promise 59: it replaces", x.writeReports(1) + Check.output(x), "19abcdef/x 150-160@0\n");
        x.forget(1, 0);
        Check.is("promise 59: none", x.writeReports(1) + Check.output(x), "0");
        x.forget(2, 1);
        x.forget(2, 2);
        x.forget(0, 1);
        x.relay(0);
        x.deliver(100);
        x.writeReports(2);
        // The trust in a is the same for both, and its own report made fewer hops.
        Check.is("promise 59: the origin, not via", Check.output(x), "abcdef/x 150-160@0!\na/z 5-5@12\na/x 5-100@12\n");
        Check.fails("promise 59: agent", x, Check.INDEX, () -> x.writeReports(3));
        Check.fails("promise 59: agent -1", x, Check.INDEX, () -> x.writeReports(-1));
    }

    /** 36 reports with the longest names, bounds and times. */
    private static void longest() {
        StringBuilder text = new StringBuilder("rules drift 0 slack 0 least 10 age 99 hops 3;");
        for (char c = 'a'; c < 'g'; c++) {
            text.append("agent name").append(c).append("n;way way").append(c).append("ww;");
        }
        for (char c = 'b'; c < 'g'; c++) {
            text.append("link namean name").append(c).append("n;");
        }
        PathTrust x = Check.made(text.toString());
        for (int i = 0; i < 120; i++) {
            x.pass(99);
        }
        StringBuilder due = new StringBuilder();
        for (int agent = 1; agent < 7; agent++) {
            for (int way = 0; way < 6; way++) {
                x.probe(agent % 6, way, 100 + agent, 900 + way);
                due.append("name").append((char) ('a' + agent % 6)).append("n/way").append((char) ('a' + way));
                due.append("ww ").append(100 + agent).append('-').append(900 + way).append("@11880");
                due.append(agent % 6 == 0 ? "\n" : "?\n");
            }
            x.share(agent % 6);
            x.deliver(100);
        }
        Check.is("promise 15: 36 reports", x.reports(0), 36);
        for (int other = 1; other < 6; other++) {
            x.setTrust(0, other, 9);
        }
        Check.is("promise 59: 36 reports", x.writeReports(0), due.length());
        // An object is used for 512 calls at most, so that not each of the bytes can be looked at.
        for (int i = 0; i < due.length(); i += 7) {
            Check.is("promise 59: byte " + i + " of 36 reports", (char) x.outputByte(i), due.charAt(i));
        }
        Check.is("promise 44: as long as it has room", x.relay(0), 100);
    }

    private static void outputByte() {
        PathTrust x = Check.made(TEXT);
        Check.fails("promise 60: empty", x, Check.INDEX, () -> x.outputByte(0));
        x.writeReports(0);
        Check.is("promise 60: the first byte", x.outputByte(0), (int) 'a');
        Check.is("promise 60: the last byte", x.outputByte(13), 10);
        Check.fails("promise 60: 14", x, Check.INDEX, () -> x.outputByte(14));
        Check.fails("promise 60: -1", x, Check.INDEX, () -> x.outputByte(-1));
        Check.fails("promise 60: greatest", x, Check.INDEX, () -> x.outputByte(Integer.MAX_VALUE));
        Check.fails("promise 60: least", x, Check.INDEX, () -> x.outputByte(Integer.MIN_VALUE));
    }
}
