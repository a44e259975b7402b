/** What the tests share: comparing answers, naming exceptions, and loading texts. */
final class Kit {
    private static int wrong = 0;

    private Kit() {
    }

    static void due(String call, long got, long want) {
        if (got != want) {
            wrong++;
            System.out.println(call + " answered " + got + ", due is " + want);
        }
    }

    static void dueText(String call, String got, String want) {
        if (!got.equals(want)) {
            wrong++;
            System.out.println(call + " answered " + got + ", due is " + want);
        }
    }

    static void throwsBounds(String call, Runnable run) {
        dueText(call, thrown(run), "IndexOutOfBoundsException");
    }

    static void throwsArgument(String call, Runnable run) {
        dueText(call, thrown(run), "IllegalArgumentException");
    }

    static void throwsState(String call, Runnable run) {
        dueText(call, thrown(run), "IllegalStateException");
    }

    static String thrown(Runnable run) {
        try {
            run.run();
        } catch (RuntimeException e) {
            return e.getClass().getSimpleName();
        }
        return "nothing";
    }

    /** Appends the text, filled up with the byte '#', so that a reader that goes too far meets a fault. */
    static void append(LinkElection x, String text) {
        for (int at = 0; at < text.length(); at += 20) {
            x.append(word(text, at), word(text, at + 4), word(text, at + 8), word(text, at + 12), word(text, at + 16));
        }
    }

    private static int word(String text, int at) {
        int value = 0;
        for (int i = at; i < at + 4; i++) {
            value = value << 8 | (i < text.length() ? text.charAt(i) & 255 : '#');
        }
        return value;
    }

    static int load(LinkElection x, String text) {
        append(x, text);
        return x.load(text.length());
    }

    static LinkElection made(String text) {
        LinkElection x = new LinkElection();
        int answer = load(x, text);
        if (answer < 0) {
            wrong++;
            System.out.println("load of '" + text + "' answered " + answer + " at " + x.errorOffset());
        }
        return x;
    }

    /** All that the methods tell of the data: 72 calls for three libraries and two names. */
    static String state(LinkElection x) {
        int libraries = x.libraries();
        int names = x.names();
        StringBuilder told = new StringBuilder();
        told.append(libraries).append(' ').append(names).append(' ').append(x.share()).append(' ').append(x.checksum());
        for (int name = 0; name < names; name++) {
            told.append('|').append(x.candidates(name)).append(' ').append(x.winner(name)).append(' ');
            told.append(x.margin(name)).append(' ').append(x.minority(name));
        }
        for (int library = 0; library < libraries; library++) {
            told.append('|');
            for (int what = 0; what < 6; what++) {
                told.append(x.library(library, what)).append(' ');
            }
            for (int name = 0; name < names; name++) {
                told.append('(').append(x.offer(library, name)).append(' ').append(x.vote(library, name)).append(' ');
                told.append(x.support(library, name)).append(' ').append(x.binding(library, name)).append(' ');
                told.append(x.call(library, name)).append(' ').append(x.steps(library, name)).append(' ');
                told.append(x.users(library, name)).append(')');
            }
        }
        return told.toString();
    }

    static void end(String test) {
        System.out.println(test + ": " + (wrong == 0 ? "all answers are as due" : wrong + " answers are not as due"));
        if (wrong != 0) {
            System.exit(1);
        }
    }
}
