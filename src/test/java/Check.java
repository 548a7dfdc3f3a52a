import java.util.concurrent.Callable;

/** What the tests share: answers that are due, exceptions that are due, texts that go in and come out. */
final class Check {
    static final Class<?> INDEX = IndexOutOfBoundsException.class;
    static final Class<?> ARGUMENT = IllegalArgumentException.class;
    static final Class<?> STATE = IllegalStateException.class;
    static final Class<?> ELEMENT = java.util.NoSuchElementException.class;

    private static int wrong = 0;

    private Check() {
    }

    static void is(String what, Object got, Object due) {
        if (!due.equals(got)) {
            wrong++;
            System.out.println(what + " answered " + got + ", due is " + due);
        }
    }

    /** The call throws exactly this exception. That it changes nothing is looked at by Edge, on objects of its own. */
    static void fails(String what, PathTrust x, Class<?> due, Callable<?> call) {
        int before = x.undoCount();
        Object got;
        try {
            got = call.call();
        } catch (Exception e) {
            got = e.getClass();
        }
        is(what, got, due);
        is(what + " and then what can be undone", x.undoCount(), before);
    }

    /** A call that does not end is a fault, too. */
    static void limit() {
        Thread watch = new Thread(() -> {
            try {
                Thread.sleep(300000);
            } catch (InterruptedException e) {
                return;
            }
            System.out.println("a call does not end");
            Runtime.getRuntime().halt(1);
        });
        watch.setDaemon(true);
        watch.start();
    }

    static void end(String test) {
        System.out.println(test + (wrong == 0 ? ": all answers are as due" : ": " + wrong + " answers are not as due"));
        if (wrong != 0) {
            System.exit(1);
        }
    }

    /** Puts a text in the input buffer in place of what there was. */
    static void put(PathTrust x, String text) {
        x.truncate(0);
        for (int i = 0; i < text.length(); i += 20) {
            x.append(four(text, i), four(text, i + 4), four(text, i + 8), four(text, i + 12), four(text, i + 16));
        }
        x.truncate(text.length());
    }

    private static int four(String text, int from) {
        int word = 0;
        for (int i = from; i < from + 4; i++) {
            word = word << 8 | (i < text.length() ? text.charAt(i) : ' ') & 255;
        }
        return word;
    }

    static int load(PathTrust x, String text) {
        put(x, text);
        return x.load();
    }

    static PathTrust made(String text) {
        PathTrust x = new PathTrust();
        is("load of " + text, load(x, text) >= 0, true);
        return x;
    }

    static int findAgent(PathTrust x, String name) {
        put(x, name);
        return x.findAgent();
    }

    static int findWay(PathTrust x, String name) {
        put(x, name);
        return x.findWay();
    }

    static String output(PathTrust x) {
        StringBuilder text = new StringBuilder();
        try {
            for (int i = 0; i < 100000; i++) {
                text.append((char) x.outputByte(i));
            }
        } catch (IndexOutOfBoundsException e) {
            return text.toString();
        }
        return text.toString();
    }

    /** The number of bytes in the input buffer, by few calls, as an object is used for 512 at most. */
    static int inputLength(PathTrust x) {
        try {
            int length = x.append(0, 0, 0, 0, 0) - 20;
            x.truncate(length);
            return length;
        } catch (IllegalStateException e) {
            return lengthFrom(x, 581);
        }
    }

    private static int lengthFrom(PathTrust x, int least) {
        for (int length = 600; length >= least; length--) {
            try {
                x.truncate(length);
                return length;
            } catch (IllegalArgumentException e) {
                continue;
            }
        }
        return -1;
    }

    /** The reports of an agent: origin, via, hops, way, time, low, high of each. */
    static String list(PathTrust x, int agent) {
        StringBuilder text = new StringBuilder();
        for (int i = 0; i < x.reports(agent); i++) {
            for (int what = 0; what < 7; what++) {
                text.append(what == 0 ? "" : " ").append(x.report(agent, i, what));
            }
            text.append(";");
        }
        return text.toString();
    }

    /** The messages: from, to, origin, hops, way, reason of each. */
    static String queue(PathTrust x) {
        StringBuilder text = new StringBuilder();
        for (int i = 0; i < x.property(8); i++) {
            for (int what = 0; what < 6; what++) {
                text.append(what == 0 ? "" : " ").append(x.message(i, what));
            }
            text.append(";");
        }
        return text.toString();
    }

    /** The two bounds that an agent believes of a way. */
    static String belief(PathTrust x, int agent, int way) {
        return x.belief(agent, way, 0) + "-" + x.belief(agent, way, 1);
    }

    /** All that can be seen without a change. */
    static String state(PathTrust x) {
        StringBuilder text = new StringBuilder();
        for (int what = 0; what < 10; what++) {
            text.append(x.property(what)).append(' ');
        }
        text.append("error ").append(x.errorCode()).append(' ').append(x.errorPosition());
        text.append(" undo ").append(x.undoCount()).append(" input ").append(inputLength(x)).append('\n');
        for (int agent = 0; agent < x.property(0); agent++) {
            for (int other = 0; other < x.property(0); other++) {
                text.append(x.trust(agent, other)).append(' ');
            }
            for (int what = 0; what < 5; what++) {
                text.append(x.account(agent, what)).append(' ');
            }
            text.append(list(x, agent)).append('\n');
        }
        return text.append(queue(x)).append('\n').append(output(x)).toString();
    }
}
