import java.math.BigInteger;

/**
 * The edges that the promises name for the methods, and the Terms for the changes and the exceptions: one test a
 * sentence, which stands above it.
 */
public final class MethodEdgeTests {
    private static final int MIN = Integer.MIN_VALUE;
    private static final int MAX = Integer.MAX_VALUE;

    /** What Kit.state tells of no libraries and no names. */
    private static final String EMPTY = "0 0 50 50";

    /** x: a and b offer, c votes for b; y: a forwards; c keeps. */
    private static final String TEXT = "link;name x;name y;library a 10;library b 20;library c 5 keeps;offer a x 1;"
        + "offer b x 2;offer a y to x;prefer c b;prefer c a;share 20;weight trust+rank;";

    public static void main(String[] args) {
        newObject();
        newObjectRefuses();
        appendUntilFull();
        appendWhatDoesNotFit();
        appendMostSignificantFirst();
        loadEmptyText();
        loadEmptiesTheBuffer();
        loadBeyondTheBuffer();
        loadWithAnError();
        loadReturnsTheLibraries();
        loadLeavesNothingOfBefore();
        errorOffsetOfTheLatestLoad();
        librariesNamesAndShare();
        libraryWhat();
        libraryNotLoaded();
        offerOfAllKinds();
        supportOfNoCandidate();
        marginAgainstNone();
        marginAgainstTheSecond();
        minorityOfNoneAndMost();
        usersOfNoneAndAll();
        stepsAlone();
        callOfOneNotLoaded();
        unloadCounts();
        unloadUntilNoneIsLeft();
        reloadCounts();
        offersOfOneNotLoaded();
        withdrawTheLast();
        setTrustTellsThePrevious();
        setKeepsCounts();
        setShareCounts();
        refusedCalls();
        refusedLoads();
        indexesOfAFullObject();
        firstListedException();
        changesThatChangeNothing();
        undoOfEachChange();
        latest8Changes();
        finalBehind8Later();
        notFinalIfLaterOnesAreUndone();
        undoWithoutChanges();
        undoBeforeTheFirstLoad();
        undoLeavesBufferAndErrorOffset();
        queriesAreNoChanges();
        checksumWrapsAround();
        Kit.end("MethodEdgeTests");
    }

    /** "Creates an object without libraries and names, with an empty input buffer." */
    private static void newObject() {
        LinkElection x = new LinkElection();
        Kit.dueText("a new object", Kit.state(x), EMPTY);
        Kit.due("its error offset", x.errorOffset(), -1);
        Kit.throwsArgument("nothing is in its buffer", () -> x.load(1));
        Kit.due("20 bytes fit", x.append(0, 0, 0, 0, 0), 20);
        LinkElection first = new LinkElection();
        LinkElection second = new LinkElection();
        Kit.load(first, TEXT);
        first.setShare(3);
        Kit.dueText("another object", Kit.state(second), EMPTY);
        Kit.throwsArgument("its buffer is its own", () -> second.load(1));
        Kit.due("its changes are its own", second.undo(), -1);
    }

    /** "IndexOutOfBoundsException is thrown if a parameter is not the index of a library, or a name": there is none. */
    private static void newObjectRefuses() {
        LinkElection x = new LinkElection();
        refusesLibrary(x, 0);
        refusesName(x, 0, 0);
        Kit.dueText("it is still new", Kit.state(x), EMPTY);
        Kit.due("nothing was a change", x.undo(), -1);
        LinkElection names = Kit.made("link;name x;");
        refusesLibrary(names, 0);
        Kit.due("candidates of a name without libraries", names.candidates(0), 0);
        Kit.due("its winner", names.winner(0), -1);
        Kit.due("its margin", names.margin(0), -1);
        Kit.due("its minority", names.minority(0), 0);
        LinkElection libraries = Kit.made("link;library a 1;");
        refusesName(libraries, 0, 0);
        Kit.due("a library without names", libraries.library(0, 3), 0);
        Kit.due("its unload", libraries.unload(0), 0);
        Kit.due("its reload", libraries.reload(0), 0);
    }

    /** "Returns the new length of the buffer; -1 if it would exceed 800 bytes." */
    private static void appendUntilFull() {
        LinkElection x = new LinkElection();
        for (int length = 20; length <= 780; length += 20) {
            Kit.due("append", x.append(0, 0, 0, 0, 0), length);
        }
        Kit.due("the last that fits", x.append(0, 0, 0, 0, 0), 800);
        Kit.due("the first that does not", x.append(0, 0, 0, 0, 0), -1);
        Kit.due("nor does the next one", x.append(0, 0, 0, 0, 0), -1);
    }

    /** "-1 if it would exceed 800 bytes, and the buffer is unchanged then." */
    private static void appendWhatDoesNotFit() {
        StringBuilder text = new StringBuilder("link;name x;library a 7;");
        while (text.length() < 800 - 12) {
            text.append(' ');
        }
        text.append("offer a x 9;");
        LinkElection x = new LinkElection();
        Kit.append(x, text.toString());
        Kit.due("append to a full buffer", x.append(0x6c696e6b, 0x3b202020, 0x20202020, 0x20202020, 0x20202020), -1);
        Kit.throwsArgument("it is no longer than before", () -> x.load(801));
        Kit.due("it is as before", x.load(800), 1);
        Kit.due("to its last byte", x.offer(0, 0), 9);
        Kit.due("empty again", x.append(0, 0, 0, 0, 0), 20);
    }

    /** "The 4 bytes of each argument, the most significant byte first." */
    private static void appendMostSignificantFirst() {
        LinkElection x = new LinkElection();
        // "link" ";nam" "e ab" "cdef" "gh; " and then "name" " ij;" "    " "    " " \377\200\177!"
        x.append(0x6c696e6b, 0x3b6e616d, 0x65206162, 0x63646566, 0x67683b20);
        x.append(0x6e616d65, 0x20696a3b, 0x20202020, 0x20202020, 0xff807f21);
        Kit.due("all bytes in their order", x.load(36), 0);
        Kit.due("two names", x.names(), 2);
        for (int place = 0; place < 20; place++) {
            int[] words = {0x20202020, 0x20202020, 0x20202020, 0x20202020, 0x20202020};
            int shift = 24 - 8 * (place % 4);
            words[place / 4] = 0x20202020 & ~(255 << shift) | 0xff << shift;
            x.append(words[0], words[1], words[2], words[3], words[4]);
            Kit.due("a byte 255", x.load(20), -2);
            Kit.due("its place", x.errorOffset(), place);
        }
        x.append(MIN, MAX, -1, 0, 1);
        Kit.due("the sign is in the first byte", x.load(20), -2);
        Kit.due("at 0", x.errorOffset(), 0);
    }

    /** "An empty text has a SYNTAX_ERROR"; also one that is empty because no byte is read. */
    private static void loadEmptyText() {
        LinkElection x = new LinkElection();
        Kit.due("load(0) of an empty buffer", x.load(0), -2);
        Kit.due("its offset", x.errorOffset(), 0);
        Kit.append(x, "link;library a 1;   ");
        Kit.due("load(0) of a buffer with a text", x.load(0), -2);
        Kit.due("its offset too", x.errorOffset(), 0);
        Kit.throwsArgument("the buffer is empty then", () -> x.load(1));
        Kit.due("no libraries came of it", x.libraries(), 0);
    }

    /** "The input buffer is empty afterwards, also if the text has an error." */
    private static void loadEmptiesTheBuffer() {
        LinkElection x = new LinkElection();
        Kit.append(x, "link;library a 1;library b 1;           ");
        Kit.due("load of the first bytes", x.load(17), 1);
        Kit.throwsArgument("the others are gone", () -> x.load(1));
        Kit.due("append is the first again", x.append(0, 0, 0, 0, 0), 20);
        Kit.due("load with an error", x.load(20), -2);
        Kit.throwsArgument("nothing is left", () -> x.load(1));
        Kit.due("append is the first again too", x.append(0, 0, 0, 0, 0), 20);
    }

    /** "Throws if length is negative or greater than the length of the buffer; the buffer is unchanged then." */
    private static void loadBeyondTheBuffer() {
        LinkElection x = new LinkElection();
        for (int wrong : new int[] {-1, 1, 20, 800, 801, MIN, MAX}) {
            Kit.throwsArgument("load(" + wrong + ") of an empty buffer", () -> x.load(wrong));
        }
        Kit.append(x, "link;library a 1;   ");
        for (int wrong : new int[] {-1, -20, 21, 40, 801, MIN, MAX}) {
            Kit.throwsArgument("load(" + wrong + ") of 20 bytes", () -> x.load(wrong));
        }
        Kit.append(x, "library b 1;        ");
        Kit.throwsArgument("load(41) of 40 bytes", () -> x.load(41));
        Kit.due("load(40) of them", x.load(40), 2);
    }

    /** "An error leaves all other data unchanged." */
    private static void loadWithAnError() {
        LinkElection x = Kit.made(TEXT);
        x.unload(0);
        x.setShare(33);
        String before = Kit.state(x);
        String spoilt = "link;name q;library z 9 keeps;library y 8;offer z q 7;prefer z y;share 66;weight 5;";
        Kit.due("an error at the end", Kit.load(x, spoilt + "x"), -2);
        Kit.dueText("all other data", Kit.state(x), before);
        Kit.due("setShare is undone", x.undo(), 2);
        Kit.due("unload is undone", x.undo(), 1);
        Kit.due("it is loaded", x.library(0, 2), 0);
    }

    /** "Returns the number of libraries": 0 to 8. */
    private static void loadReturnsTheLibraries() {
        StringBuilder text = new StringBuilder("link;");
        LinkElection x = new LinkElection();
        for (int count = 0; count <= 8; count++) {
            Kit.due("load", Kit.load(x, text.toString()), count);
            Kit.due("libraries", x.libraries(), count);
            text.append("library ").append((char) ('a' + count)).append(" 1;");
        }
        Kit.due("load of nine", Kit.load(x, text.toString()), -6);
        Kit.due("libraries still", x.libraries(), 8);
    }

    /** "Replaces all data by it." */
    private static void loadLeavesNothingOfBefore() {
        String next = "link;name y;name x;library c 4;library a 3;";
        LinkElection x = Kit.made(TEXT);
        x.unload(1);
        x.setTrust(0, 77);
        x.offerForward(2, 1, 1);
        Kit.load(x, next);
        Kit.dueText("the same as in a new object", Kit.state(x), Kit.state(Kit.made(next)));
        x.offerValue(0, 0, 1);
        x.offerValue(1, 0, 1);
        Kit.due("no keeping, no preferences, no weight of before", x.binding(1, 0), 0);
        Kit.load(x, "link;");
        Kit.dueText("and of an empty one", Kit.state(x), EMPTY);
        x = Kit.made("link;name n;library a 1 keeps;library b 1 keeps;offer a n 1;prefer a b;");
        Kit.load(x, "link;name n;library a 1;library b 1;");
        Kit.dueText("no keeping, offer or preference is left", Kit.state(x),
            Kit.state(Kit.made("link;name n;library a 1;library b 1;")));
    }

    /** "The error found by the latest call of load that did not throw; -1 if it found none or if there was no such call." */
    private static void errorOffsetOfTheLatestLoad() {
        LinkElection x = new LinkElection();
        Kit.due("no call", x.errorOffset(), -1);
        Kit.throwsArgument("a call that throws", () -> x.load(1));
        Kit.due("no call that did not throw", x.errorOffset(), -1);
        Kit.load(x, "?");
        Kit.due("at the first byte", x.errorOffset(), 0);
        Kit.load(x, "link;?");
        Kit.due("the latest one", x.errorOffset(), 5);
        Kit.throwsArgument("a call that throws again", () -> x.load(-1));
        Kit.due("not the one that threw", x.errorOffset(), 5);
        Kit.load(x, "link;");
        Kit.due("none", x.errorOffset(), -1);
        Kit.throwsArgument("a call that throws behind it", () -> x.load(MAX));
        Kit.due("still none", x.errorOffset(), -1);
        StringBuilder spaces = new StringBuilder("link");
        while (spaces.length() < 800) {
            spaces.append(' ');
        }
        Kit.load(x, spaces.toString());
        Kit.due("the greatest offset", x.errorOffset(), 800);
    }

    /** "Returns the number of libraries", "of names", "the share": whether loaded or not, used or not. */
    private static void librariesNamesAndShare() {
        LinkElection x = Kit.made(TEXT);
        for (int library = 0; library < 3; library++) {
            x.unload(library);
        }
        Kit.due("libraries that are not loaded", x.libraries(), 3);
        Kit.due("names that nobody offers", x.names(), 2);
        x.setShare(0);
        Kit.due("the least share", x.share(), 0);
        x.setShare(100);
        Kit.due("the greatest share", x.share(), 100);
    }

    /** "0 its trust, 1 1 if it keeps, otherwise 0, ...": 0 to 5, and nothing beyond. */
    private static void libraryWhat() {
        LinkElection x = Kit.made(TEXT);
        int[][] due = {{10, 0, 0, 2, 0, 10}, {20, 0, 1, 1, 0, 21}, {5, 1, 2, 0, 2, 7}};
        for (int library = 0; library < 3; library++) {
            for (int what = 0; what <= 5; what++) {
                Kit.due("library(" + library + ", " + what + ")", x.library(library, what), due[library][what]);
            }
            int fixed = library;
            for (int what : new int[] {-1, 6, 7, MIN, MAX}) {
                Kit.throwsArgument("library(" + library + ", " + what + ")", () -> x.library(fixed, what));
            }
        }
    }

    /** "Its rank (-1 if it is not loaded)", "its weight (-1 if it is not loaded)"; the others stay. */
    private static void libraryNotLoaded() {
        LinkElection x = Kit.made(TEXT);
        x.unload(2);
        int[] due = {5, 1, -1, 0, 2, -1};
        for (int what = 0; what <= 5; what++) {
            Kit.due("library(2, " + what + ") of one that is not loaded", x.library(2, what), due[what]);
        }
        Kit.throwsArgument("library(2, 6) of one that is not loaded", () -> x.library(2, 6));
        x.setTrust(2, 0);
        x.reload(2);
        Kit.due("its weight again", x.library(2, 5), 2);
    }

    /** "The value that it offers; -2 - k if it forwards to the name k; -1 if it does not offer this name." */
    private static void offerOfAllKinds() {
        LinkElection x = Kit.made("link;name a;name b;name c;name d;name e;name f;name g;name h;name i;name j;name k;"
            + "name l;library a 1;");
        Kit.due("none", x.offer(0, 5), -1);
        for (int name = 0; name < 12; name++) {
            x.offerForward(0, 5, name);
            Kit.due("a forward to " + name, x.offer(0, 5), -2 - name);
        }
        x.offerValue(0, 5, 0);
        Kit.due("the least value", x.offer(0, 5), 0);
        x.offerValue(0, 5, 9999);
        Kit.due("the greatest value", x.offer(0, 5), 9999);
        Kit.due("none beside it", x.offer(0, 4), -1);
        Kit.due("none behind it", x.offer(0, 6), -1);
        x.unload(0);
        Kit.due("of one that is not loaded", x.offer(0, 5), 9999);
        x.withdraw(0, 5);
        Kit.due("none again", x.offer(0, 5), -1);
    }

    /** "Its support for the name; -1 if it is no candidate." */
    private static void supportOfNoCandidate() {
        LinkElection x = Kit.made("link;name n;library a 0;library b 7;library c 9;prefer b a;offer a n 1;weight trust*0;");
        Kit.due("a candidate with a support of 0", x.support(0, 0), 0);
        Kit.due("one that only votes", x.support(1, 0), -1);
        Kit.due("one that abstains", x.support(2, 0), -1);
        x.unload(0);
        Kit.due("one that is not loaded", x.support(0, 0), -1);
        x.reload(0);
        x.withdraw(0, 0);
        Kit.due("one that offers no more", x.support(0, 0), -1);
    }

    /** "Or minus 0 if there is no other one; -1 if there is no winner." */
    private static void marginAgainstNone() {
        LinkElection x = Kit.made("link;name n;library a 8;library b 3;prefer b a;offer a n 1;");
        Kit.due("no other one", x.margin(0), 11);
        x.setTrust(0, 0);
        x.setTrust(1, 0);
        Kit.due("no other one, and no support", x.margin(0), 0);
        x.withdraw(0, 0);
        Kit.due("no winner", x.margin(0), -1);
        x.unload(0);
        x.unload(1);
        Kit.due("nobody is loaded", x.margin(0), -1);
    }

    /** "The support of its winner minus the greatest support of another candidate." */
    private static void marginAgainstTheSecond() {
        LinkElection x = Kit.made("link;name n;library a 5;library b 9;library c 8;library d 2;offer a n 1;offer b n 1;"
            + "offer c n 1;offer d n 1;");
        Kit.due("the greatest of three others", x.margin(0), 1);
        x.setTrust(2, 9);
        Kit.due("equal ones", x.margin(0), 0);
        x.setTrust(2, 0);
        Kit.due("the first one is the second", x.margin(0), 4);
        x.setTrust(0, 0);
        Kit.due("the last one is the second", x.margin(0), 7);
        x.setTrust(3, 0);
        Kit.due("the others have none", x.margin(0), 9);
    }

    /** "The number of loaded libraries whose binding for it is not the winner": 0 to 7. */
    private static void minorityOfNoneAndMost() {
        StringBuilder text = new StringBuilder("link;name n;share 0;");
        for (char letter = 'a'; letter <= 'h'; letter++) {
            text.append("library ").append(letter).append(" 1 keeps;offer ").append(letter).append(" n 1;");
        }
        LinkElection x = Kit.made(text.toString());
        Kit.due("all but the winner", x.minority(0), 7);
        x.setShare(13);
        Kit.due("none", x.minority(0), 0);
        x.setShare(12);
        x.unload(3);
        Kit.due("loaded ones only", x.minority(0), 6);
        x.unload(0);
        Kit.due("another winner", x.minority(0), 5);
        for (int library = 0; library < 8; library++) {
            if (library != 0 && library != 3) {
                x.unload(library);
            }
        }
        Kit.due("nobody is loaded", x.minority(0), 0);
        for (int library = 7; library >= 0; library--) {
            x.reload(library);
        }
        Kit.due("all but the winner, which is the last one", x.minority(0), 7);
        x.setKeeps(0, false);
        Kit.due("all but the winner and the first one", x.minority(0), 6);
    }

    /** "The number of loaded libraries whose binding for the name it is": 0 to 8. */
    private static void usersOfNoneAndAll() {
        StringBuilder text = new StringBuilder("link;name n;name m;");
        for (char letter = 'a'; letter <= 'h'; letter++) {
            text.append("library ").append(letter).append(" 1;");
        }
        LinkElection x = Kit.made(text + "offer h n 1;");
        Kit.due("all, itself among them", x.users(7, 0), 8);
        Kit.due("no candidate", x.users(0, 0), 0);
        Kit.due("no candidate for another name", x.users(7, 1), 0);
        x.unload(0);
        Kit.due("loaded ones only", x.users(7, 0), 7);
        x.offerValue(1, 0, 1);
        Kit.due("a candidate without users", x.users(7, 0), 0);
        Kit.due("the older one", x.users(1, 0), 7);
        x.unload(1);
        x.unload(7);
        Kit.due("one that is not loaded", x.users(7, 0), 0);
    }

    /** "Calls a name; nothing changes": steps needs no call before it, and tells nothing of another one. */
    private static void stepsAlone() {
        LinkElection x = Kit.made(TEXT);
        Kit.due("steps, no call before it", x.steps(1, 1), 2);
        Kit.due("call of another name", x.call(1, 0), 2);
        Kit.due("steps of the first name", x.steps(1, 1), 2);
        Kit.due("steps of the other name", x.steps(1, 0), 1);
        Kit.due("call", x.call(1, 1), 2);
    }

    /** "-1 if the call is lost or the library is not loaded", "0 if the library is not loaded". */
    private static void callOfOneNotLoaded() {
        LinkElection x = Kit.made(TEXT);
        Kit.due("call", x.call(2, 1), 2);
        Kit.due("steps", x.steps(2, 1), 2);
        x.unload(2);
        Kit.due("call by one that is not loaded", x.call(2, 1), -1);
        Kit.due("steps by one that is not loaded", x.steps(2, 1), 0);
        Kit.due("vote of one that is not loaded", x.vote(2, 0), -1);
        Kit.due("binding of one that is not loaded", x.binding(2, 0), -1);
        x.unload(0);
        x.unload(1);
        Kit.due("a candidate that is not loaded", x.call(0, 0), -1);
    }

    /** "Pairs of a library that is loaded then and a name whose binding is another one than before (or none ...)." */
    private static void unloadCounts() {
        LinkElection x = Kit.made(TEXT);
        // c has b's x, the winner's; y has a as its only candidate.
        Kit.due("unload of a: b and c have no y then", x.unload(0), 2);
        Kit.due("unload of b: c has no x then", x.unload(1), 1);
        x = Kit.made(TEXT);
        Kit.due("unload of b: a and c have another x", x.unload(1), 2);
        Kit.due("unload of c: nothing else", x.unload(2), 0);
        Kit.due("unload of a: nobody is loaded then", x.unload(0), 0);
        // By ages alone: of two with the same trust the younger one has more weight here.
        x = Kit.made("link;name n;library a 1;library b 20;library c 20;offer b n 1;offer c n 1;weight trust+rank;");
        Kit.due("the younger one has more weight", x.winner(0), 2);
        x.unload(0);
        Kit.due("it still has", x.winner(0), 2);
        x.unload(1);
        x.reload(1);
        Kit.due("the ages turned round", x.winner(0), 1);
        // By friends alone.
        x = Kit.made("link;name n;library a 1;library b 1;library c 1;offer a n 1;offer b n 1;prefer c b;weight friends;");
        Kit.due("the friend tells", x.winner(0), 1);
        Kit.due("without the friend", x.unload(2), 2);
        Kit.due("the oldest one", x.winner(0), 0);
    }

    /** "IllegalStateException if it is not loaded", "if it is loaded". */
    private static void unloadUntilNoneIsLeft() {
        LinkElection x = Kit.made(TEXT);
        for (int library = 0; library < 3; library++) {
            int fixed = library;
            Kit.throwsState("reload of a loaded one", () -> x.reload(fixed));
            x.unload(library);
            Kit.throwsState("unload of one that is not loaded", () -> x.unload(fixed));
        }
        for (int library = 2; library >= 0; library--) {
            int fixed = library;
            Kit.due("reload", x.reload(library) >= 0 ? 1 : 0, 1);
            Kit.throwsState("reload again", () -> x.reload(fixed));
        }
        Kit.due("the first one is the youngest", x.library(0, 2), 2);
    }

    /** "Pairs of another loaded library and a name whose binding is another one than before": not its own. */
    private static void reloadCounts() {
        LinkElection x = Kit.made(TEXT);
        x.unload(0);
        x.unload(1);
        x.unload(2);
        Kit.due("it is alone", x.reload(0), 0);
        Kit.due("b comes: a has another x", x.reload(1), 1);
        Kit.due("c comes: nothing else", x.reload(2), 0);
        x = Kit.made(TEXT);
        x.unload(0);
        Kit.due("a comes: b and c have a y, where there was none", x.reload(0), 2);
        x.unload(0);
        x.unload(1);
        Kit.due("b comes: c has an x, where there was none", x.reload(1), 1);
        Kit.due("a comes: b and c have a y", x.reload(0), 2);
    }

    /** "Returns the winner of the name then; -1 if there is none": what is offered without being loaded. */
    private static void offersOfOneNotLoaded() {
        LinkElection x = Kit.made("link;name n;name m;library a 5;library b 3;");
        x.unload(0);
        Kit.due("offerValue without effect", x.offerValue(0, 0, 7), -1);
        Kit.due("offerForward without effect", x.offerForward(0, 1, 0), -1);
        Kit.due("offerValue by a loaded one", x.offerValue(1, 0, 8), 1);
        Kit.due("the unloaded one does not win", x.offerValue(0, 0, 9), 1);
        Kit.due("nor by a forward", x.offerForward(0, 0, 0), 1);
        Kit.due("withdraw without effect", x.withdraw(0, 0), 1);
        Kit.due("it is withdrawn all the same", x.offer(0, 0), -1);
        x.reload(0);
        Kit.due("its other offer is there", x.winner(1), 0);
    }

    /** "Returns the winner of the name then; -1 if there is none"; "IllegalStateException if it does not offer this name". */
    private static void withdrawTheLast() {
        LinkElection x = Kit.made("link;name n;library a 5;library b 3;library c 9;offer a n 1;offer b n 1;offer c n 1;");
        Kit.due("the winner goes", x.withdraw(2, 0), 0);
        Kit.due("another one goes", x.withdraw(1, 0), 0);
        Kit.due("the last one goes", x.withdraw(0, 0), -1);
        for (int library = 0; library < 3; library++) {
            int fixed = library;
            Kit.throwsState("it offers no more", () -> x.withdraw(fixed, 0));
        }
        x.unload(0);
        Kit.throwsState("nor when it is not loaded", () -> x.withdraw(0, 0));
        x.offerValue(0, 0, 0);
        Kit.due("a value of 0 can be withdrawn", x.withdraw(0, 0), -1);
        x.offerForward(0, 0, 0);
        Kit.due("a forward can be withdrawn", x.withdraw(0, 0), -1);
    }

    /** "Returns the previous trust": not the first one, and not the new one. */
    private static void setTrustTellsThePrevious() {
        LinkElection x = Kit.made(TEXT);
        Kit.due("of the text", x.setTrust(0, 0), 10);
        Kit.due("the least", x.setTrust(0, 999), 0);
        Kit.due("the greatest", x.setTrust(0, 999), 999);
        Kit.due("the same", x.setTrust(0, 4), 999);
        x.undo();
        Kit.due("that of before the undone change", x.setTrust(0, 5), 999);
        for (int wrong : new int[] {-1, 1000, MIN, MAX}) {
            Kit.throwsArgument("setTrust(0, " + wrong + ")", () -> x.setTrust(0, wrong));
        }
        Kit.due("none of them was set", x.setTrust(0, 6), 5);
    }

    /** "The number of names for which its binding is another one then": of this library, 0 to 12. */
    private static void setKeepsCounts() {
        StringBuilder text = new StringBuilder("link;share 0;library w 9;library a 1;library b 1 keeps;prefer b a;");
        for (char letter = 'a'; letter <= 'l'; letter++) {
            text.append("name ").append(letter).append(";offer w ").append(letter).append(" 1;");
        }
        LinkElection x = Kit.made(text.toString());
        Kit.due("it has no other choice", x.setKeeps(1, true), 0);
        for (int name = 0; name < 12; name++) {
            x.offerValue(1, name, 2);
        }
        Kit.due("all names, its own ones", x.setKeeps(1, false), 12);
        Kit.due("none more", x.setKeeps(1, false), 0);
        Kit.due("all names, by its preference", x.setKeeps(2, false), 12);
        x.withdraw(1, 11);
        Kit.due("all but one", x.setKeeps(2, true), 11);
        Kit.due("the winner has its own anyway", x.setKeeps(0, true), 0);
        x.unload(1);
        Kit.due("one that is not loaded has none", x.setKeeps(1, true), 0);
        x.unload(2);
        x.setKeeps(2, false);
        Kit.due("it does not keep when it comes back", x.library(2, 1), 0);
    }

    /** "Pairs of a loaded library and a name whose binding is another one then": 0 to 84. */
    private static void setShareCounts() {
        StringBuilder text = new StringBuilder("link;share 0;");
        for (char letter = 'a'; letter <= 'l'; letter++) {
            text.append("name ").append(letter).append(';');
        }
        for (char letter = 'a'; letter <= 'h'; letter++) {
            text.append("library ").append(letter).append(" 1 keeps;");
        }
        LinkElection x = Kit.made(text.toString());
        Kit.due("no candidates", x.setShare(0), 0);
        for (int library = 0; library < 8; library++) {
            for (int name = 0; name < 12; name++) {
                x.offerValue(library, name, 1);
            }
        }
        Kit.due("1 of 8 is enough", x.setShare(12), 0);
        Kit.due("1 of 8 is too little", x.setShare(13), 84);
        Kit.due("the same share", x.setShare(13), 0);
        Kit.due("the greatest share", x.setShare(100), 0);
        x.unload(7);
        Kit.due("the least share, of seven", x.setShare(0), 72);
    }

    private static void refusesLibrary(LinkElection x, int library) {
        String index = " with library " + library;
        for (int what = 0; what <= 5; what++) {
            int fixed = what;
            Kit.throwsBounds("library" + index, () -> x.library(library, fixed));
        }
        Kit.throwsBounds("unload" + index, () -> x.unload(library));
        Kit.throwsBounds("reload" + index, () -> x.reload(library));
        Kit.throwsBounds("setTrust" + index, () -> x.setTrust(library, 1));
        Kit.throwsBounds("setKeeps" + index, () -> x.setKeeps(library, true));
        refusesPair(x, library, 0);
    }

    private static void refusesName(LinkElection x, int library, int name) {
        String index = " with name " + name;
        Kit.throwsBounds("candidates" + index, () -> x.candidates(name));
        Kit.throwsBounds("winner" + index, () -> x.winner(name));
        Kit.throwsBounds("margin" + index, () -> x.margin(name));
        Kit.throwsBounds("minority" + index, () -> x.minority(name));
        Kit.throwsBounds("offerForward to it" + index, () -> x.offerForward(library, 0, name));
        refusesPair(x, library, name);
    }

    private static void refusesPair(LinkElection x, int library, int name) {
        String pair = "(" + library + ", " + name + ")";
        Kit.throwsBounds("offer" + pair, () -> x.offer(library, name));
        Kit.throwsBounds("vote" + pair, () -> x.vote(library, name));
        Kit.throwsBounds("support" + pair, () -> x.support(library, name));
        Kit.throwsBounds("binding" + pair, () -> x.binding(library, name));
        Kit.throwsBounds("call" + pair, () -> x.call(library, name));
        Kit.throwsBounds("steps" + pair, () -> x.steps(library, name));
        Kit.throwsBounds("users" + pair, () -> x.users(library, name));
        Kit.throwsBounds("offerValue" + pair, () -> x.offerValue(library, name, 1));
        Kit.throwsBounds("offerForward" + pair, () -> x.offerForward(library, name, 0));
        Kit.throwsBounds("withdraw" + pair, () -> x.withdraw(library, name));
    }

    /** An object of three libraries and two names with eight changes, the earliest of which is near to be final. */
    private static LinkElection withEightChanges() {
        LinkElection x = Kit.made(TEXT);
        x.unload(1);
        for (int share = 31; share < 38; share++) {
            x.setShare(share);
        }
        return x;
    }

    /** "A method that throws an exception changes nothing": neither the data nor what can be undone. */
    private static void refusedCalls() {
        refused("unload of one that is not loaded", "IllegalStateException", x -> x.unload(1));
        refused("reload of a loaded one", "IllegalStateException", x -> x.reload(0));
        refused("withdraw of what is not offered", "IllegalStateException", x -> x.withdraw(2, 0));
        for (int wrong : new int[] {-1, 3, 8, MIN, MAX}) {
            String bounds = "IndexOutOfBoundsException";
            refused("unload(" + wrong + ")", bounds, x -> x.unload(wrong));
            refused("reload(" + wrong + ")", bounds, x -> x.reload(wrong));
            refused("setTrust(" + wrong + ", 5)", bounds, x -> x.setTrust(wrong, 5));
            refused("setKeeps(" + wrong + ", false)", bounds, x -> x.setKeeps(wrong, false));
            refused("offerValue(" + wrong + ", 0, 5)", bounds, x -> x.offerValue(wrong, 0, 5));
            refused("offerForward(" + wrong + ", 0, 0)", bounds, x -> x.offerForward(wrong, 0, 0));
            refused("withdraw(" + wrong + ", 0)", bounds, x -> x.withdraw(wrong, 0));
        }
        for (int wrong : new int[] {-1, 2, 12, MIN, MAX}) {
            String bounds = "IndexOutOfBoundsException";
            refused("offerValue(0, " + wrong + ", 5)", bounds, x -> x.offerValue(0, wrong, 5));
            refused("offerForward(0, " + wrong + ", 0)", bounds, x -> x.offerForward(0, wrong, 0));
            refused("offerForward(0, 0, " + wrong + ")", bounds, x -> x.offerForward(0, 0, wrong));
            refused("withdraw(0, " + wrong + ")", bounds, x -> x.withdraw(0, wrong));
        }
        String argument = "IllegalArgumentException";
        for (int wrong : new int[] {-1, 10000, MIN, MAX}) {
            refused("offerValue(0, 0, " + wrong + ")", argument, x -> x.offerValue(0, 0, wrong));
        }
        for (int wrong : new int[] {-1, 1000, MIN, MAX}) {
            refused("setTrust(0, " + wrong + ")", argument, x -> x.setTrust(0, wrong));
        }
        for (int wrong : new int[] {-1, 101, MIN, MAX}) {
            refused("setShare(" + wrong + ")", argument, x -> x.setShare(wrong));
            refused("load(" + wrong + ")", argument, x -> x.load(wrong));
        }
    }

    /** A call of one method. */
    private interface Call {
        void on(LinkElection x);
    }

    private static void refused(String name, String exception, Call call) {
        LinkElection x = withEightChanges();
        String before = Kit.state(x);
        Kit.append(x, "link;library q 1;   ");
        Kit.dueText(name, Kit.thrown(() -> call.on(x)), exception);
        Kit.dueText("the state behind " + name, Kit.state(x), before);
        Kit.due("the error offset behind " + name, x.errorOffset(), -1);
        allEightAreUndone(x, name);
        Kit.due("the buffer behind " + name, x.load(20), 1);
    }

    private static void allEightAreUndone(LinkElection x, String name) {
        for (int left = 7; left >= 1; left--) {
            Kit.due("undo behind " + name, x.undo(), left);
            Kit.due("share behind " + name, x.share(), left == 1 ? 20 : 29 + left);
        }
        Kit.due("the last undo behind " + name, x.undo(), 0);
        Kit.due("it is loaded behind " + name, x.library(1, 2), 1);
        Kit.due("no more undo behind " + name, x.undo(), -1);
    }

    /** "Load (when it succeeds)": one with an error is no change. */
    private static void refusedLoads() {
        String[] texts = {"", "link", "link;share 101;", "link;prefer a b;", "link;name a;name a;",
            "link;weight (((((1)))));", "link;library a 1;library b 1;library c 1;library d 1;library e 1;library f 1;"
            + "library g 1;library h 1;library i 1;"};
        int[] codes = {-2, -2, -3, -4, -5, -7, -6};
        for (int i = 0; i < texts.length; i++) {
            LinkElection x = withEightChanges();
            Kit.due("load of '" + texts[i] + "'", Kit.load(x, texts[i]), codes[i]);
            allEightAreUndone(x, "load of '" + texts[i] + "'");
        }
    }

    /** "Not the index of a library, or a name": beside the last of 8 and 12. */
    private static void indexesOfAFullObject() {
        StringBuilder text = new StringBuilder("link;");
        for (char letter = 'a'; letter <= 'l'; letter++) {
            text.append("name ").append(letter).append(';');
        }
        for (char letter = 'a'; letter <= 'h'; letter++) {
            text.append("library ").append(letter).append(" 1;");
        }
        LinkElection x = Kit.made(text.toString());
        Kit.due("the last pair", x.offerForward(7, 11, 11), 7);
        Kit.due("its loop", x.call(7, 11), -2);
        for (int wrong : new int[] {-1, 8, 9, MIN, MAX}) {
            refusesLibrary(x, wrong);
        }
        for (int wrong : new int[] {-1, 12, 13, MIN, MAX}) {
            refusesName(x, 7, wrong);
        }
        // A library's index is no name's: 8 to 11 are names only.
        Kit.due("candidates(11)", x.candidates(11), 1);
        Kit.throwsBounds("library(11, 0)", () -> x.library(11, 0));
    }

    /** "If several exceptions apply to a call, the one that is listed first with the method is thrown." */
    private static void firstListedException() {
        LinkElection x = Kit.made(TEXT);
        Kit.throwsBounds("library(3, 6)", () -> x.library(3, 6));
        Kit.throwsBounds("library(-1, -1)", () -> x.library(-1, -1));
        Kit.throwsBounds("offerValue(3, 0, 10000)", () -> x.offerValue(3, 0, 10000));
        Kit.throwsBounds("offerValue(0, 2, -1)", () -> x.offerValue(0, 2, -1));
        Kit.throwsBounds("offerValue(3, 2, -1)", () -> x.offerValue(3, 2, -1));
        Kit.throwsBounds("setTrust(3, 1000)", () -> x.setTrust(3, 1000));
        Kit.throwsBounds("setTrust(-1, -1)", () -> x.setTrust(-1, -1));
        Kit.throwsBounds("withdraw(2, 2)", () -> x.withdraw(2, 2));
        Kit.throwsBounds("withdraw(3, 1)", () -> x.withdraw(3, 1));
    }

    /** "Each such call that does not throw an exception is a change, also if all data stay as they were." */
    private static void changesThatChangeNothing() {
        LinkElection x = Kit.made(TEXT);
        String before = Kit.state(x);
        Kit.due("load of the same text", Kit.load(x, TEXT), 3);
        Kit.due("the same value", x.offerValue(0, 0, 1), 1);
        Kit.due("the same forward", x.offerForward(0, 1, 0), 0);
        Kit.due("the same trust", x.setTrust(0, 10), 10);
        Kit.due("the same keeps", x.setKeeps(2, true), 0);
        Kit.due("the same share", x.setShare(20), 0);
        Kit.dueText("all data are as they were", Kit.state(x), before);
        for (int left = 6; left >= 0; left--) {
            Kit.due("undo", x.undo(), left);
        }
        Kit.due("before the first load", x.libraries(), 0);
        Kit.due("none is left", x.undo(), -1);
    }

    /** "The changing methods are load, unload, reload, ...": each one is undone as a whole. */
    private static void undoOfEachChange() {
        undone("load", x -> Kit.load(x, "link;name q;name r;name s;library z 1 keeps;library y 2;prefer z y;offer z q 1;"
            + "weight 4;share 1;"));
        undone("load of an empty setup", x -> Kit.load(x, "link;"));
        undone("unload of the oldest one", x -> x.unload(0));
        undone("unload of the youngest one", x -> x.unload(2));
        undone("reload", x -> x.reload(1));
        undone("offerValue in place of a value", x -> x.offerValue(0, 0, 9));
        undone("offerValue in place of a forward", x -> x.offerValue(0, 1, 9));
        undone("offerValue in place of nothing", x -> x.offerValue(2, 0, 9));
        undone("offerForward in place of a value", x -> x.offerForward(0, 0, 1));
        undone("offerForward in place of nothing", x -> x.offerForward(2, 1, 1));
        undone("withdraw", x -> x.withdraw(0, 0));
        undone("withdraw of one that is not loaded", x -> x.withdraw(1, 0));
        undone("setTrust", x -> x.setTrust(2, 500));
        undone("setTrust of one that is not loaded", x -> x.setTrust(1, 500));
        undone("setKeeps to false", x -> x.setKeeps(2, false));
        undone("setKeeps to true", x -> x.setKeeps(0, true));
        undone("setShare", x -> x.setShare(0));
    }

    private static void undone(String name, Call change) {
        LinkElection x = Kit.made(TEXT);
        x.unload(1);
        String before = Kit.state(x);
        change.on(x);
        Kit.due("the change " + name + " is seen", Kit.state(x).equals(before) ? 0 : 1, 1);
        Kit.due("undo of " + name, x.undo(), 2);
        Kit.dueText("the state behind undo of " + name, Kit.state(x), before);
        Kit.due("undo of unload behind " + name, x.undo(), 1);
        Kit.dueText("the state behind it", Kit.state(x), Kit.state(Kit.made(TEXT)));
    }

    /** "The latest 8 changes can be undone, the latest one first." */
    private static void latest8Changes() {
        LinkElection x = new LinkElection();
        long[] sums = new long[10];
        Call[] changes = {o -> Kit.load(o, "link;name n;library a 3;library b 2;"), o -> o.offerValue(0, 0, 5),
            o -> o.offerForward(1, 0, 0), o -> o.setTrust(1, 9), o -> o.setKeeps(0, true), o -> o.unload(0),
            o -> o.withdraw(0, 0), o -> o.reload(0), o -> o.setShare(1)};
        for (int i = 0; i < changes.length; i++) {
            changes[i].on(x);
            sums[i + 1] = x.checksum();
            Kit.due("another state", sums[i + 1] == sums[i] ? 1 : 0, 0);
        }
        for (int left = 7; left >= 0; left--) {
            Kit.due("undo", x.undo(), left);
            Kit.due("checksum then", x.checksum(), sums[left + 1]);
        }
        Kit.due("the first of nine is final", x.undo(), -1);
        Kit.due("it stands", x.checksum(), sums[1]);
    }

    /** "A change is final as soon as 8 later ones, none of them undone, have been made": also if they are undone then. */
    private static void finalBehind8Later() {
        LinkElection x = new LinkElection();
        for (int share = 1; share <= 8; share++) {
            x.setShare(share);
        }
        for (int left = 7; left >= 0; left--) {
            Kit.due("undo of eight", x.undo(), left);
        }
        Kit.due("the first of eight is not final", x.share(), 50);
        for (int share = 1; share <= 9; share++) {
            x.setShare(share);
        }
        for (int left = 7; left >= 0; left--) {
            Kit.due("undo of nine", x.undo(), left);
        }
        Kit.due("the first of nine is final", x.share(), 1);
        Kit.due("and stays so", x.undo(), -1);
        x.setShare(77);
        Kit.due("a new one is not", x.undo(), 0);
        Kit.due("undone", x.share(), 1);
        Kit.due("the first of nine is still final", x.undo(), -1);
    }

    /** "None of them undone": later changes that were undone do not make it final. */
    private static void notFinalIfLaterOnesAreUndone() {
        LinkElection x = new LinkElection();
        x.setShare(1);
        for (int i = 0; i < 20; i++) {
            x.setShare(10 + i);
            Kit.due("undo of one of twenty", x.undo(), 1);
        }
        for (int share = 2; share <= 7; share++) {
            x.setShare(share);
        }
        x.setShare(60);
        x.setShare(70);
        // The first change has 8 later ones now, and is final.
        Kit.due("undo of the ninth", x.undo(), 7);
        x.undo();
        x.undo();
        x.setShare(80);
        for (int left = 5; left >= 0; left--) {
            Kit.due("undo", x.undo(), left);
        }
        Kit.due("the first one is final", x.share(), 1);
        x = new LinkElection();
        for (int share = 1; share <= 8; share++) {
            x.setShare(share);
        }
        x.undo();
        x.undo();
        x.setShare(90);
        x.setShare(91);
        // Ten were made, but only 7 of the later ones are not undone.
        for (int left = 7; left >= 0; left--) {
            Kit.due("undo of eight that are left of ten", x.undo(), left);
        }
        Kit.due("the first one was not final", x.share(), 50);
    }

    /** "-1 if there was none to undo, and nothing changes then." */
    private static void undoWithoutChanges() {
        LinkElection x = new LinkElection();
        Kit.due("of a new object", x.undo(), -1);
        Kit.due("again", x.undo(), -1);
        Kit.dueText("nothing changes", Kit.state(x), EMPTY);
        x = withEightChanges();
        x.setShare(99);
        for (int i = 0; i < 8; i++) {
            x.undo();
        }
        String before = Kit.state(x);
        Kit.due("none is left", x.undo(), -1);
        Kit.due("none is left again", x.undo(), -1);
        Kit.dueText("nothing changes then", Kit.state(x), before);
        x.setShare(98);
        Kit.due("a refused undo takes nothing from the next change", x.undo(), 0);
        Kit.dueText("nor from what it brings back", Kit.state(x), before);
    }

    /** "Before the first successful load there are no libraries and no names, and the share is 50." */
    private static void undoBeforeTheFirstLoad() {
        LinkElection x = new LinkElection();
        Kit.load(x, "link;share 5;oops");
        Kit.dueText("behind a load with an error", Kit.state(x), EMPTY);
        Kit.due("its offset", x.errorOffset(), 13);
        Kit.load(x, TEXT);
        Kit.due("undo of the first load", x.undo(), 0);
        Kit.dueText("as before it", Kit.state(x), EMPTY);
        refusesLibrary(x, 0);
        refusesName(x, 0, 0);
        Kit.due("setShare without libraries", x.setShare(8), 0);
        Kit.due("it is told", x.share(), 8);
        Kit.load(x, "link;");
        Kit.due("50 again", x.share(), 50);
        x.undo();
        Kit.due("8 again", x.share(), 8);
    }

    /** "The input buffer and the error offset are not affected." */
    private static void undoLeavesBufferAndErrorOffset() {
        LinkElection x = Kit.made(TEXT);
        x.setShare(3);
        Kit.load(x, "link;?");
        Kit.append(x, "link;library a 1;   ");
        x.undo();
        Kit.due("the error offset", x.errorOffset(), 5);
        x.undo();
        Kit.due("the error offset behind undo of load", x.errorOffset(), 5);
        x.undo();
        Kit.due("the error offset behind a refused undo", x.errorOffset(), 5);
        Kit.due("the buffer's length", x.append(0, 0, 0, 0, 0), 40);
        Kit.due("the buffer", x.load(20), 1);
        Kit.due("undo of it", x.undo(), 0);
        Kit.throwsArgument("the buffer does not come back", () -> x.load(1));
        Kit.due("nor does the error offset", x.errorOffset(), -1);
    }

    /** Methods that are not among the changing ones are no changes. */
    private static void queriesAreNoChanges() {
        LinkElection x = withEightChanges();
        String before = Kit.state(x);
        Kit.append(x, "0123456789");
        Kit.dueText("the same answers again", Kit.state(x), before);
        allEightAreUndone(x, "queries and append");
    }

    /** "Each number n replaces it by 31 * checksum + n, wrapping around on overflow of a long." */
    private static void checksumWrapsAround() {
        LinkElection x = Kit.made(TEXT);
        long[] told = {
            20,
            10, 0, 0, 2, 0, 10, 1, 1, 2, -2, 0, 2,
            20, 0, 1, 1, 0, 21, 2, 1, 2, -1, 0, 2,
            5, 1, 2, 0, 2, 7, -1, 1, 2, -1, 0, 2,
        };
        BigInteger sum = BigInteger.ZERO;
        for (long number : told) {
            sum = sum.multiply(BigInteger.valueOf(31)).add(BigInteger.valueOf(number));
        }
        Kit.due("it is too large for a long", sum.bitLength() > 64 ? 1 : 0, 1);
        Kit.due("checksum", x.checksum(), sum.longValue());
        Kit.due("checksum again", x.checksum(), sum.longValue());
        Kit.due("of a setup without names", Kit.made("link;library a 3 keeps;share 0;").checksum(),
            ((((((0L * 31 + 3) * 31 + 1) * 31 + 0) * 31 + 0) * 31 + 0) * 31) + 3);
    }
}
