/** Promises 5 to 19 and 29: what the methods that change nothing tell. */
public final class QueryTests {
    /** x: a and b offer, c votes for b, d for nobody; y: only a; z: nobody. */
    private static final String TEXT = "link;name x;name y;name z;library a 30;library b 20 keeps;library c 5 keeps;"
        + "library d 7 keeps;offer a x 1;offer b x 2;offer a y to x;offer c y to z;prefer c d;prefer c b;prefer c a;"
        + "prefer d c;";
    private static final int MIN = Integer.MIN_VALUE;
    private static final int MAX = Integer.MAX_VALUE;
    private static final int CALL = 17;
    private static final int STEPS = 18;

    public static void main(String[] args) {
        promise5();
        promise6();
        promise7();
        promise8();
        promise9();
        promise10();
        promise11();
        promise12();
        promise13();
        promise14();
        promise15();
        promise15Keeps();
        promise16();
        promise17();
        promise18();
        promise19();
        promise29();
        outOfBounds();
        changesNothing();
        Kit.end("QueryTests");
    }

    private static void promise5() {
        Kit.due("5 of a new object", new LinkElection().libraries(), 0);
        LinkElection x = Kit.made(TEXT);
        Kit.due("5 of a text", x.libraries(), 4);
        x.unload(1);
        Kit.due("5 one is not loaded", x.libraries(), 4);
        Kit.load(x, "link;library a 1;library");
        Kit.due("5 behind an error", x.libraries(), 4);
        Kit.load(x, "link;name q;library a 1;");
        Kit.due("5 of the next text", x.libraries(), 1);
        Kit.load(x, "link;name q;");
        Kit.due("5 none", x.libraries(), 0);
        x.undo();
        Kit.due("5 of the text before", x.libraries(), 1);
    }

    private static void promise6() {
        Kit.due("6 of a new object", new LinkElection().names(), 0);
        LinkElection x = Kit.made(TEXT);
        Kit.due("6 of a text", x.names(), 3);
        x.withdraw(0, 0);
        x.withdraw(1, 0);
        Kit.due("6 one is not offered", x.names(), 3);
        Kit.load(x, "link;name q;name");
        Kit.due("6 behind an error", x.names(), 3);
        Kit.load(x, "link;name q;library a 1;library b 1;");
        Kit.due("6 of the next text", x.names(), 1);
        Kit.load(x, "link;library a 1;");
        Kit.due("6 none", x.names(), 0);
        x.undo();
        Kit.due("6 of the text before", x.names(), 1);
    }

    private static void promise7() {
        Kit.due("7 of a new object", new LinkElection().share(), 50);
        LinkElection x = Kit.made(TEXT);
        Kit.due("7 not told", x.share(), 50);
        x.setShare(100);
        Kit.due("7 set", x.share(), 100);
        Kit.thrown(() -> x.setShare(101));
        Kit.due("7 behind a refused one", x.share(), 100);
        Kit.load(x, "link;share 7;share 8;");
        Kit.due("7 behind an error", x.share(), 100);
        Kit.load(x, "link;share 0;");
        Kit.due("7 told", x.share(), 0);
        x.undo();
        Kit.due("7 the one before", x.share(), 100);
    }

    private static void promise8() {
        LinkElection x = Kit.made(TEXT + "weight trust*2+rank*100+friends*1000;");
        row(x, 0, 30, 0, 0, 2, 0, 1060);
        row(x, 1, 20, 1, 1, 1, 0, 1140);
        row(x, 2, 5, 1, 2, 1, 3, 1210);
        row(x, 3, 7, 1, 3, 0, 1, 1314);
        x.unload(2);
        row(x, 2, 5, 1, -1, 1, 3, -1);
        row(x, 0, 30, 0, 0, 2, 0, 60);
        row(x, 1, 20, 1, 1, 1, 0, 140);
        row(x, 3, 7, 1, 2, 0, 1, 214);
        x.unload(0);
        x.reload(2);
        x.reload(0);
        row(x, 1, 20, 1, 0, 1, 0, 1040);
        row(x, 3, 7, 1, 1, 0, 1, 1114);
        row(x, 2, 5, 1, 2, 1, 3, 1210);
        row(x, 0, 30, 0, 3, 2, 0, 1360);
        LinkElection fixed = x;
        Kit.throwsArgument("8 library(0, -1)", () -> fixed.library(0, -1));
        Kit.throwsArgument("8 library(0, 6)", () -> fixed.library(0, 6));
        Kit.throwsArgument("8 library(0, MIN)", () -> fixed.library(0, MIN));
        Kit.throwsBounds("8 library(4, 6)", () -> fixed.library(4, 6));
        Kit.throwsBounds("8 library(-1, 0)", () -> fixed.library(-1, 0));
    }

    private static void row(LinkElection x, int library, int... told) {
        for (int what = 0; what < told.length; what++) {
            Kit.due("8 library(" + library + ", " + what + ")", x.library(library, what), told[what]);
        }
    }

    private static void promise9() {
        LinkElection x = Kit.made(TEXT + "offer d x 0;offer d y 9999;");
        Kit.due("9 a value", x.offer(1, 0), 2);
        Kit.due("9 the value 0", x.offer(3, 0), 0);
        Kit.due("9 the value 9999", x.offer(3, 1), 9999);
        Kit.due("9 a forward to 0", x.offer(0, 1), -2);
        Kit.due("9 a forward to 2", x.offer(2, 1), -4);
        Kit.due("9 nothing", x.offer(2, 0), -1);
        x.unload(2);
        Kit.due("9 of a library that is not loaded", x.offer(2, 1), -4);
    }

    private static void promise10() {
        LinkElection x = Kit.made(TEXT);
        Kit.due("10 two", x.candidates(0), 2);
        Kit.due("10 two by forward", x.candidates(1), 2);
        Kit.due("10 none", x.candidates(2), 0);
        x.unload(0);
        Kit.due("10 loaded ones only", x.candidates(0), 1);
        x.unload(1);
        Kit.due("10 none is loaded", x.candidates(0), 0);
    }

    private static void promise11() {
        LinkElection x = Kit.made(TEXT);
        Kit.due("11 for itself", x.vote(0, 0), 0);
        Kit.due("11 for itself, though it prefers others", x.vote(2, 1), 2);
        Kit.due("11 for the first preference that is a candidate", x.vote(2, 0), 1);
        Kit.due("11 its preference is no candidate", x.vote(3, 0), -1);
        Kit.due("11 no candidates", x.vote(0, 2), -1);
        Kit.due("11 no preferences", x.vote(1, 1), -1);
        x.unload(1);
        Kit.due("11 the next preference", x.vote(2, 0), 0);
        Kit.due("11 not loaded", x.vote(1, 0), -1);
        x.offerValue(3, 0, 4);
        Kit.due("11 an earlier preference", x.vote(2, 0), 3);
    }

    private static void promise12() {
        LinkElection x = Kit.made(TEXT);
        Kit.due("12 its own", x.support(0, 0), 30);
        Kit.due("12 its own and another", x.support(1, 0), 25);
        Kit.due("12 no candidate", x.support(2, 0), -1);
        Kit.due("12 by forward", x.support(2, 1), 12);
        x.unload(1);
        Kit.due("12 not loaded", x.support(1, 0), -1);
        Kit.due("12 another vote", x.support(0, 0), 35);
        x = Kit.made("link;name n;library a 0;offer a n 1;");
        Kit.due("12 a weight of 0", x.support(0, 0), 0);
    }

    private static void promise13() {
        LinkElection x = Kit.made(TEXT);
        Kit.due("13 the greatest support", x.winner(0), 0);
        Kit.due("13 none", x.winner(2), -1);
        x.setTrust(2, 10);
        Kit.due("13 the oldest of equals", x.winner(0), 0);
        x.setTrust(2, 11);
        Kit.due("13 the second one", x.winner(0), 1);
        x.setTrust(2, 10);
        x.unload(0);
        x.reload(0);
        Kit.due("13 age and not index tells", x.winner(0), 1);
        x = Kit.made("link;name n;library a 0;library b 0;offer b n 1;offer a n 1;");
        Kit.due("13 supports of 0", x.winner(0), 0);
    }

    private static void promise14() {
        LinkElection x = Kit.made(TEXT);
        Kit.due("14 of two", x.margin(0), 5);
        Kit.due("14 none", x.margin(2), -1);
        x.setTrust(2, 10);
        Kit.due("14 of equals", x.margin(0), 0);
        x.unload(0);
        Kit.due("14 of one", x.margin(0), 30);
        x.reload(0);
        x.setTrust(0, 100);
        x.offerValue(2, 0, 1);
        x.offerValue(3, 0, 1);
        Kit.due("14 of four", x.margin(0), 80);
        x.setTrust(1, 900);
        Kit.due("14 the first library is the second one", x.margin(0), 800);
    }

    private static void promise15() {
        LinkElection x = Kit.made(TEXT + "share 45;");
        Kit.due("15 the winner's own", x.binding(0, 0), 0);
        Kit.due("15 25 of 55 are 45 of 100", x.binding(1, 0), 1);
        Kit.due("15 another that keeps", x.binding(2, 0), 1);
        Kit.due("15 one that abstains", x.binding(3, 0), 0);
        Kit.due("15 no candidates", x.binding(1, 2), -1);
        x.setShare(46);
        Kit.due("15 25 of 55 are less than 46 of 100", x.binding(1, 0), 0);
        x.unload(1);
        Kit.due("15 not loaded", x.binding(1, 0), -1);
    }

    private static void promise15Keeps() {
        String text = "link;name n;library a 3;library b 1 keeps;library c 0;offer a n 1;offer b n 2;share 25;";
        LinkElection x = Kit.made(text);
        Kit.due("15 exactly the share", x.binding(1, 0), 1);
        x.setTrust(0, 4);
        Kit.due("15 below the share", x.binding(1, 0), 0);
        x.setTrust(0, 3);
        x.setKeeps(1, false);
        Kit.due("15 does not keep", x.binding(1, 0), 0);
        x = Kit.made("link;name n;library a 670;library b 329 keeps;offer a n 1;offer b n 2;share 33;");
        Kit.due("15 little less than the share", x.binding(1, 0), 0);
        x.setTrust(1, 330);
        Kit.due("15 exactly the share of 1000", x.binding(1, 0), 1);
        x = Kit.made("link;name n;library a 3;library b 0 keeps;offer a n 1;offer b n 2;share 0;");
        Kit.due("15 a share of 0", x.binding(1, 0), 1);
        x.setShare(1);
        Kit.due("15 a support of 0", x.binding(1, 0), 0);
        x.setTrust(0, 0);
        x.setShare(100);
        Kit.due("15 all supports are 0", x.binding(1, 0), 1);
    }

    private static void promise16() {
        LinkElection x = Kit.made(TEXT + "share 45;");
        Kit.due("16 b and c", x.minority(0), 2);
        Kit.due("16 no candidates", x.minority(2), 0);
        x.setKeeps(2, false);
        Kit.due("16 only b", x.minority(0), 1);
        x.setShare(46);
        Kit.due("16 nobody", x.minority(0), 0);
        x.setShare(10);
        Kit.due("16 b again", x.minority(0), 1);
        x.unload(1);
        Kit.due("16 loaded ones only", x.minority(0), 0);
        x.reload(1);
        x.setTrust(1, 300);
        x.setKeeps(0, true);
        x.setShare(5);
        Kit.due("16 the first library", x.minority(0), 1);
    }

    private static void promise17() {
        ways(CALL);
        longestWays(CALL);
        LinkElection x = Kit.made(TEXT);
        long before = x.checksum();
        Kit.due("17 call", x.call(0, 1), 1);
        Kit.due("17 the same call again", x.call(0, 1), 1);
        Kit.due("17 nothing changes", x.checksum(), before);
        Kit.due("17 it is no change", x.undo(), 0);
    }

    private static void promise18() {
        ways(STEPS);
        longestWays(STEPS);
        LinkElection x = Kit.made(TEXT);
        Kit.due("18 steps without a call before it", x.steps(0, 1), 2);
        x.call(0, 0);
        Kit.due("18 steps behind another call", x.steps(0, 1), 2);
        Kit.due("18 it is no change", x.undo(), 0);
    }

    /** The same ways for both promises, each of which looks at its own answers alone. */
    private static void ways(int promise) {
        LinkElection x = Kit.made(TEXT + "share 45;");
        goes(promise, x, 0, 0, 1, 1);
        goes(promise, x, 1, 0, 2, 1);
        goes(promise, x, 0, 1, 1, 2);
        goes(promise, x, 1, 1, 1, 2);
        goes(promise, x, 3, 2, -1, 0);
        x.unload(1);
        goes(promise, x, 1, 0, -1, 0);
        x.offerForward(0, 1, 2);
        goes(promise, x, 0, 1, -1, 1);
        x.offerForward(0, 1, 1);
        goes(promise, x, 0, 1, -2, 1);
        goes(promise, x, 3, 1, -2, 2);
        x.unload(0);
        x.offerForward(2, 1, 0);
        x.offerForward(2, 0, 1);
        goes(promise, x, 2, 1, -2, 2);
        goes(promise, x, 3, 0, -2, 3);
        x.offerValue(2, 0, 0);
        goes(promise, x, 3, 1, 0, 2);
        // The library whose definition it was calls on: b's y goes to b's x, a's y to a's x.
        x = Kit.made("link;name x;name y;library a 9;library b 1 keeps;library c 0;offer a x 1;offer b x 2;"
            + "offer a y to x;offer b y to x;share 0;prefer c b;");
        goes(promise, x, 1, 1, 2, 2);
        goes(promise, x, 2, 1, 1, 2);
        x.setKeeps(2, true);
        goes(promise, x, 2, 1, 2, 2);
    }

    private static void goes(int promise, LinkElection x, int library, int name, int result, int steps) {
        String pair = "(" + library + ", " + name + ")";
        if (promise == CALL) {
            Kit.due("17 call" + pair, x.call(library, name), result);
        } else {
            Kit.due("18 steps" + pair, x.steps(library, name), steps);
        }
    }

    /** Twelve names, each one forwarded to the next by its only candidate, until they are a ring. */
    private static void longestWays(int promise) {
        StringBuilder text = new StringBuilder("link;library s 0;");
        for (int i = 0; i < 12; i++) {
            text.append("name ").append((char) ('a' + i)).append(';');
        }
        for (int i = 0; i < 7; i++) {
            text.append("library ").append((char) ('a' + i)).append(" 1;");
        }
        for (int i = 0; i < 11; i++) {
            text.append("offer ").append((char) ('a' + i % 7)).append(' ').append((char) ('a' + i)).append(" to ")
                .append((char) ('b' + i)).append(';');
        }
        LinkElection x = Kit.made(text.toString());
        goes(promise, x, 0, 0, -1, 11);
        x.offerValue(5, 11, 77);
        goes(promise, x, 0, 0, 77, 12);
        x.offerForward(5, 11, 0);
        goes(promise, x, 0, 0, -2, 13);
        goes(promise, x, 6, 0, -2, 13);
        goes(promise, x, 5, 0, -2, 12);
    }

    private static void promise19() {
        LinkElection x = Kit.made(TEXT + "share 45;");
        Kit.due("19 a and d", x.users(0, 0), 2);
        Kit.due("19 b and c", x.users(1, 0), 2);
        Kit.due("19 no candidate", x.users(2, 0), 0);
        Kit.due("19 no candidates", x.users(0, 2), 0);
        x.unload(2);
        Kit.due("19 loaded ones only", x.users(1, 0), 0);
        x.unload(0);
        Kit.due("19 not loaded", x.users(0, 0), 0);
        Kit.due("19 all others", x.users(1, 0), 2);
    }

    private static void promise29() {
        Kit.due("29 of a new object", new LinkElection().checksum(), 50);
        LinkElection x = Kit.made("link;name n;library a 10 keeps;offer a n 4;share 7;");
        long sum = 7;
        long[] told = {10, 1, 0, 1, 0, 10, 4, 0, 4};
        for (long number : told) {
            sum = 31 * sum + number;
        }
        Kit.due("29 of one library", x.checksum(), sum);
        Kit.due("29 of names alone", Kit.made("link;name n;name m;share 3;").checksum(), 3);
        x = Kit.made(TEXT);
        x.unload(0);
        sum = x.share();
        for (int library = 0; library < 4; library++) {
            for (int what = 0; what < 6; what++) {
                sum = 31 * sum + x.library(library, what);
            }
            for (int name = 0; name < 3; name++) {
                sum = 31 * sum + x.offer(library, name);
                sum = 31 * sum + x.binding(library, name);
                sum = 31 * sum + x.call(library, name);
            }
        }
        Kit.due("29 of four libraries", x.checksum(), sum);
    }

    private static void outOfBounds() {
        LinkElection x = Kit.made(TEXT);
        LinkElection empty = new LinkElection();
        Kit.throwsBounds("a new object's candidates", () -> empty.candidates(0));
        Kit.throwsBounds("a new object's library", () -> empty.library(0, 0));
        for (int name : new int[] {-1, 3, 12, MIN, MAX}) {
            Kit.throwsBounds("10 candidates(" + name + ")", () -> x.candidates(name));
            Kit.throwsBounds("13 winner(" + name + ")", () -> x.winner(name));
            Kit.throwsBounds("14 margin(" + name + ")", () -> x.margin(name));
            Kit.throwsBounds("16 minority(" + name + ")", () -> x.minority(name));
            pairOutOfBounds(x, 0, name);
        }
        for (int library : new int[] {-1, 4, 8, MIN, MAX}) {
            Kit.throwsBounds("8 library(" + library + ", 0)", () -> x.library(library, 0));
            pairOutOfBounds(x, library, 0);
        }
    }

    private static void pairOutOfBounds(LinkElection x, int library, int name) {
        String pair = "(" + library + ", " + name + ")";
        Kit.throwsBounds("9 offer" + pair, () -> x.offer(library, name));
        Kit.throwsBounds("11 vote" + pair, () -> x.vote(library, name));
        Kit.throwsBounds("12 support" + pair, () -> x.support(library, name));
        Kit.throwsBounds("15 binding" + pair, () -> x.binding(library, name));
        Kit.throwsBounds("17 call" + pair, () -> x.call(library, name));
        Kit.throwsBounds("18 steps" + pair, () -> x.steps(library, name));
        Kit.throwsBounds("19 users" + pair, () -> x.users(library, name));
    }

    private static void changesNothing() {
        LinkElection x = Kit.made(TEXT);
        long before = x.checksum();
        outOfBoundsQuietly(x);
        Kit.due("queries change nothing", x.checksum(), before);
        Kit.due("queries are no changes", x.undo(), 0);
    }

    private static void outOfBoundsQuietly(LinkElection x) {
        for (int i = 0; i < 3; i++) {
            int k = i;
            x.call(i, k);
            x.steps(i, k);
            x.users(i, k);
            Kit.thrown(() -> x.library(k, 9));
            Kit.thrown(() -> x.offer(k, 9));
        }
    }
}
