/** Promises 20 to 28: the changes and undo. */
public final class ChangeTests {
    private static final String TEXT = "link;name x;name y;library a 10;library b 20 keeps;library c 5;offer a x 1;"
        + "offer b x 2;offer a y to x;prefer c a;prefer c b;";
    private static final int MIN = Integer.MIN_VALUE;
    private static final int MAX = Integer.MAX_VALUE;

    public static void main(String[] args) {
        promise20();
        promise21();
        promise20And21NeedState();
        promise22();
        promise23();
        promise24();
        promise25();
        promise26();
        promise27();
        allLibrariesAndNames();
        promise28Each();
        promise28Depth();
        promise28Failures();
        outOfBounds();
        Kit.end("ChangeTests");
    }

    private static void promise20() {
        LinkElection x = Kit.made(TEXT);
        Kit.due("20 unload of the only candidate for y", x.unload(0), 2);
        Kit.due("20 no winner", x.winner(1), -1);
        Kit.due("20 its rank", x.library(0, 2), -1);
        Kit.due("20 the rank of the next one", x.library(1, 2), 0);
        Kit.due("20 the rank of the youngest one", x.library(2, 2), 1);
        Kit.due("20 its offer stays", x.offer(0, 1), -2);
        Kit.due("20 its preferences stay", x.library(2, 4), 2);
        Kit.due("20 unload of the only candidate for x", x.unload(1), 1);
        Kit.due("20 unload of the last one", x.unload(2), 0);
        Kit.due("20 nobody is loaded", x.minority(0), 0);
        x = Kit.made(TEXT);
        Kit.due("20 unload of a voter without effect", x.unload(2), 0);
        x = Kit.made(TEXT);
        x.setTrust(1, 15);
        Kit.due("20 unload of a voter with no other winner", x.winner(0), 0);
        Kit.due("20 unload of the voter that tells", x.unload(2), 1);
    }

    private static void promise21() {
        LinkElection x = Kit.made(TEXT);
        x.unload(0);
        Kit.due("21 pairs of others", x.reload(0), 2);
        Kit.due("21 it is the youngest", x.library(0, 2), 2);
        Kit.due("21 the next one is older", x.library(1, 2), 0);
        Kit.due("21 its own bindings", x.binding(0, 1), 0);
        x.unload(2);
        x.setTrust(1, 14);
        Kit.due("21 before the voter comes", x.binding(0, 0), 1);
        Kit.due("21 the voter tells", x.reload(2), 2);
        x = Kit.made(TEXT);
        x.unload(2);
        Kit.due("21 a voter without effect", x.reload(2), 0);
        x.unload(0);
        x.unload(1);
        x.unload(2);
        Kit.due("21 the first one that is loaded", x.reload(1), 0);
        Kit.due("21 its rank", x.library(1, 2), 0);
        ages();
    }

    private static void ages() {
        LinkElection x = Kit.made(TEXT);
        x.unload(1);
        x.reload(1);
        Kit.due("21 the oldest one stays so", x.library(0, 2), 0);
        Kit.due("21 the youngest one now", x.library(2, 2), 1);
        Kit.due("21 the youngest one then", x.library(1, 2), 2);
        x.unload(0);
        x.reload(0);
        Kit.due("20 a middle one's rank", x.library(1, 2), 1);
        x.unload(1);
        Kit.due("20 an older one keeps its rank", x.library(2, 2), 0);
        Kit.due("20 a younger one comes nearer", x.library(0, 2), 1);
    }

    private static void promise20And21NeedState() {
        LinkElection x = Kit.made(TEXT);
        long before = x.checksum();
        Kit.throwsState("21 reload of a loaded one", () -> x.reload(1));
        Kit.due("21 it changes nothing", x.checksum(), before);
        x.unload(1);
        long after = x.checksum();
        Kit.throwsState("20 unload for a second time", () -> x.unload(1));
        Kit.due("20 it changes nothing", x.checksum(), after);
        Kit.due("20 exceptions are no changes", x.undo(), 1);
    }

    private static void promise22() {
        LinkElection x = Kit.made(TEXT);
        Kit.due("22 a new candidate", x.offerValue(2, 0, 9), 1);
        Kit.due("22 its value", x.offer(2, 0), 9);
        Kit.due("22 a new winner", x.offerValue(1, 1, 0), 1);
        Kit.due("22 in place of a forward", x.offerValue(0, 1, 9999), 1);
        Kit.due("22 that value", x.offer(0, 1), 9999);
        Kit.due("22 names offered", x.library(0, 3), 2);
        x.unload(0);
        x.unload(1);
        x.withdraw(2, 0);
        Kit.due("22 by one that is not loaded", x.offerValue(0, 0, 4), -1);
        Kit.due("22 it is kept", x.offer(0, 0), 4);
        long before = x.checksum();
        Kit.throwsArgument("22 value -1", () -> x.offerValue(0, 0, -1));
        Kit.throwsArgument("22 value 10000", () -> x.offerValue(0, 0, 10000));
        Kit.throwsArgument("22 value MIN", () -> x.offerValue(0, 0, MIN));
        Kit.throwsArgument("22 value MAX", () -> x.offerValue(0, 0, MAX));
        Kit.throwsBounds("22 no library and no value", () -> x.offerValue(3, 0, -1));
        Kit.throwsBounds("22 no name and no value", () -> x.offerValue(0, 2, -1));
        Kit.due("22 exceptions change nothing", x.checksum(), before);
    }

    private static void promise23() {
        LinkElection x = Kit.made(TEXT);
        Kit.due("23 a new candidate", x.offerForward(1, 1, 0), 1);
        Kit.due("23 its forward", x.offer(1, 1), -2);
        Kit.due("23 in place of a value", x.offerForward(1, 0, 1), 1);
        Kit.due("23 that forward", x.offer(1, 0), -3);
        Kit.due("23 to the same name", x.offerForward(0, 0, 0), 1);
        Kit.due("23 that forward to the same name", x.offer(0, 0), -2);
        x.unload(0);
        x.unload(1);
        Kit.due("23 by one that is not loaded", x.offerForward(1, 0, 0), -1);
        long before = x.checksum();
        for (int wrong : new int[] {-1, 2, MIN, MAX}) {
            Kit.throwsBounds("23 forward " + wrong, () -> x.offerForward(0, 0, wrong));
        }
        Kit.due("23 exceptions change nothing", x.checksum(), before);
    }

    private static void promise24() {
        LinkElection x = Kit.made(TEXT);
        Kit.due("24 the winner withdraws", x.withdraw(1, 0), 0);
        Kit.due("24 it offers no more", x.offer(1, 0), -1);
        Kit.due("24 nor is a candidate", x.candidates(0), 1);
        Kit.due("24 the only one withdraws", x.withdraw(0, 1), -1);
        Kit.due("24 names offered", x.library(0, 3), 1);
        Kit.throwsState("24 for a second time", () -> x.withdraw(0, 1));
        Kit.throwsState("24 never offered", () -> x.withdraw(2, 0));
        x.unload(0);
        Kit.due("24 by one that is not loaded", x.withdraw(0, 0), -1);
        x.reload(0);
        Kit.due("24 it is withdrawn", x.candidates(0), 0);
        Kit.due("24 exceptions are no changes", x.undo(), 5);
    }

    private static void promise25() {
        LinkElection x = Kit.made(TEXT);
        Kit.due("25 the previous trust", x.setTrust(2, 50), 5);
        Kit.due("25 the previous trust again", x.setTrust(2, 999), 50);
        Kit.due("25 the trust", x.library(2, 0), 999);
        Kit.due("25 it counts", x.winner(0), 0);
        Kit.due("25 down to 0", x.setTrust(2, 0), 999);
        Kit.due("25 it counts again", x.winner(0), 1);
        x.unload(2);
        Kit.due("25 of one that is not loaded", x.setTrust(2, 7), 0);
        Kit.throwsArgument("25 trust -1", () -> x.setTrust(0, -1));
        Kit.throwsArgument("25 trust 1000", () -> x.setTrust(0, 1000));
        Kit.throwsBounds("25 no library and no trust", () -> x.setTrust(3, 1000));
        Kit.due("25 exceptions change nothing", x.library(0, 0), 10);
    }

    private static void promise26() {
        LinkElection x = Kit.made(TEXT + "offer b y 3;share 10;");
        Kit.due("26 a choice kept for x alone", x.setKeeps(2, true), 2);
        Kit.due("26 its binding", x.binding(2, 0), 0);
        Kit.due("26 as before", x.setKeeps(2, true), 0);
        Kit.due("26 no more", x.setKeeps(2, false), 2);
        Kit.due("26 the winner's own", x.setKeeps(1, false), 0);
        Kit.due("26 it does not keep", x.library(1, 1), 0);
        x.unload(2);
        Kit.due("26 of one that is not loaded", x.setKeeps(2, true), 0);
        Kit.due("26 it keeps", x.library(2, 1), 1);
        x.reload(2);
        Kit.due("26 and keeps when it is loaded", x.binding(2, 0), 0);
    }

    private static void promise27() {
        LinkElection x = Kit.made(TEXT + "offer c x 8;");
        x.setKeeps(0, true);
        x.setKeeps(2, true);
        Kit.due("27 both are too small", x.minority(0), 0);
        Kit.due("27 one is large enough", x.setShare(28), 1);
        Kit.due("27 the other one too", x.setShare(14), 1);
        Kit.due("27 as before", x.setShare(14), 0);
        Kit.due("27 none again", x.setShare(100), 2);
        x.unload(2);
        Kit.due("27 loaded ones only", x.setShare(0), 1);
        Kit.due("27 share", x.share(), 0);
        for (int wrong : new int[] {-1, 101, MIN, MAX}) {
            Kit.throwsArgument("27 share " + wrong, () -> x.setShare(wrong));
        }
        Kit.due("27 exceptions change nothing", x.share(), 0);
        LinkElection empty = new LinkElection();
        Kit.due("27 before any load", empty.setShare(3), 0);
        Kit.due("27 that share", empty.share(), 3);
        Kit.due("27 it is a change", empty.undo(), 0);
        Kit.due("27 undone", empty.share(), 50);
    }

    /** The largest object: eight libraries, twelve names, each one offered by all. */
    private static void allLibrariesAndNames() {
        StringBuilder text = new StringBuilder("link;share 13;");
        for (char letter = 'a'; letter <= 'l'; letter++) {
            text.append("name ").append(letter).append(';');
        }
        for (char letter = 'a'; letter <= 'h'; letter++) {
            text.append("library ").append(letter).append(" 1 keeps;");
        }
        LinkElection x = Kit.made(text.toString());
        for (int name = 0; name < 12; name++) {
            for (int library = 0; library < 8; library++) {
                Kit.due("22 the oldest one wins", x.offerValue(library, name, library), 0);
            }
            Kit.due("10 all are candidates", x.candidates(name), 8);
            Kit.due("16 the share is too large", x.minority(name), 0);
            Kit.due("19 all bind the winner's", x.users(0, name), 8);
        }
        Kit.due("27 all but the winner keep their choice", x.setShare(12), 84);
        Kit.due("16 all but the winner", x.minority(11), 7);
        Kit.due("19 its own", x.users(7, 11), 1);
        Kit.due("26 one gives it up", x.setKeeps(7, false), 12);
        Kit.due("20 the winner goes", x.unload(0), 12);
        Kit.due("21 the winner does not come back", x.reload(0), 0);
        Kit.due("21 the youngest of all", x.library(0, 2), 7);
        Kit.due("19 two have the new winner", x.users(1, 11), 2);
        Kit.due("14 all are equal", x.margin(11), 0);
    }

    private static void promise28Each() {
        LinkElection x = Kit.made(TEXT + "weight trust+rank;share 30;");
        undone(x, "unload", () -> x.unload(0));
        x.unload(0);
        undone(x, "reload", () -> x.reload(0));
        undone(x, "offerValue", () -> x.offerValue(2, 1, 5));
        undone(x, "offerForward", () -> x.offerForward(1, 0, 1));
        undone(x, "withdraw", () -> x.withdraw(1, 0));
        undone(x, "setTrust", () -> x.setTrust(1, 3));
        undone(x, "setKeeps", () -> x.setKeeps(1, false));
        undone(x, "setShare", () -> x.setShare(99));
        undone(x, "load", () -> Kit.load(x, "link;name q;library z 1 keeps;library y 2;prefer z y;weight 4;"));
        undone(x, "the same again", () -> x.setShare(30));
        Kit.due("28 the offers of before", x.offer(1, 0), 2);
    }

    private static void undone(LinkElection x, String change, Runnable run) {
        long before = x.checksum();
        int names = x.names();
        int vote = x.vote(2, 0);
        int support = x.support(1, 0);
        run.run();
        Kit.due("28 undo of " + change, x.undo() >= 1 ? 1 : 0, 1);
        Kit.due("28 checksum after undo of " + change, x.checksum(), before);
        Kit.due("28 names after undo of " + change, x.names(), names);
        Kit.due("28 vote after undo of " + change, x.vote(2, 0), vote);
        Kit.due("28 support after undo of " + change, x.support(1, 0), support);
    }

    private static void promise28Depth() {
        LinkElection x = new LinkElection();
        for (int share = 1; share <= 9; share++) {
            x.setShare(share);
        }
        for (int left = 7; left >= 4; left--) {
            Kit.due("28 undo", x.undo(), left);
            Kit.due("28 share", x.share(), left + 1);
        }
        x.setShare(90);
        x.setShare(90);
        for (int left = 5; left >= 0; left--) {
            Kit.due("28 undo after new changes", x.undo(), left);
        }
        Kit.due("28 the first change is final", x.share(), 1);
        Kit.due("28 no more to undo", x.undo(), -1);
        Kit.due("28 nothing changes then", x.share(), 1);
        for (int share = 20; share < 28; share++) {
            x.setShare(share);
        }
        for (int left = 7; left >= 0; left--) {
            Kit.due("28 undo of eight", x.undo(), left);
        }
        Kit.due("28 as before the eight", x.share(), 1);
        Kit.due("28 none is left", x.undo(), -1);
    }

    private static void promise28Failures() {
        LinkElection x = new LinkElection();
        Kit.due("28 nothing to undo", x.undo(), -1);
        Kit.load(x, "link;name 5;");
        Kit.due("28 a failed load is no change", x.undo(), -1);
        Kit.load(x, "link;name x;library a 1;");
        Kit.append(x, "link;name y;name z;");
        Kit.due("28 undo of the load", x.undo(), 0);
        Kit.due("28 as before the load", x.names(), 0);
        Kit.due("28 the buffer is not affected", x.load(19), 0);
        Kit.due("28 it was read", x.names(), 2);
    }

    private static void outOfBounds() {
        LinkElection x = Kit.made(TEXT);
        long before = x.checksum();
        for (int wrong : new int[] {-1, 3, 8, MIN, MAX}) {
            Kit.throwsBounds("20 unload(" + wrong + ")", () -> x.unload(wrong));
            Kit.throwsBounds("21 reload(" + wrong + ")", () -> x.reload(wrong));
            Kit.throwsBounds("22 offerValue of library " + wrong, () -> x.offerValue(wrong, 0, 1));
            Kit.throwsBounds("22 offerValue of name " + wrong, () -> x.offerValue(0, wrong, 1));
            Kit.throwsBounds("23 offerForward of library " + wrong, () -> x.offerForward(wrong, 0, 1));
            Kit.throwsBounds("23 offerForward of name " + wrong, () -> x.offerForward(0, wrong, 1));
            Kit.throwsBounds("24 withdraw of library " + wrong, () -> x.withdraw(wrong, 0));
            Kit.throwsBounds("24 withdraw of name " + wrong, () -> x.withdraw(0, wrong));
            Kit.throwsBounds("25 setTrust of " + wrong, () -> x.setTrust(wrong, 1));
            Kit.throwsBounds("26 setKeeps of " + wrong, () -> x.setKeeps(wrong, true));
        }
        Kit.due("exceptions change nothing", x.checksum(), before);
        Kit.due("exceptions are no changes", x.undo(), 0);
    }
}
