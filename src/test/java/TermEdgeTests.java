/**
 * The edges that the document's Terms name, but for the setup text and the changes: one test a sentence, which
 * stands above it.
 */
public final class TermEdgeTests {
    private static final String TWELVE_NAMES =
        "name a;name b;name c;name d;name e;name f;name g;name h;name i;name j;name k;name l;";
    private static final String EIGHT_LIBRARIES = "library a 1;library b 1;library c 1;library d 1;library e 1;"
        + "library f 1;library g 1;library h 1;";

    public static void main(String[] args) {
        theCall512();
        divisionTruncates();
        limitedToTheNearerBound();
        eightLibrariesAndTwelveNames();
        trustFrom0To999();
        theFirstOneIsTheOldest();
        ranksFollowTheAges();
        oneDefinitionAtMost();
        valuesFrom0To9999();
        preferencesFrom0To7();
        candidatesAreLoadedAndOffer();
        votes();
        trustInTheWeight();
        rankInTheWeight();
        offersInTheWeight();
        friendsInTheWeight();
        divisionBy0();
        leftToRight();
        operationsLimitedAbove();
        operationsLimitedBelow();
        plainWeight();
        greatestSupport();
        oldestOfSeveral();
        keepsAtLeastTheShare();
        shareOfAllCandidates();
        shareMissedByLittle();
        shareOfTheGreatestSums();
        shareOfNothing();
        shareAt0And100();
        noCandidates();
        resultOfAValue();
        goesOnByTheLibraryOfTheDefinition();
        lostBehindForwards();
        loopAtOnce();
        loopBehindForwards();
        longestWay();
        Kit.end("TermEdgeTests");
    }

    /** "An object is used for at most 512 calls after it has been made." */
    private static void theCall512() {
        LinkElection x = Kit.made("link;name x;library a 1;offer a x 7;"); // 3 calls
        for (int call = 4; call < 511; call++) {
            Kit.due("setShare, call " + call, x.setShare(call % 101), 0);
        }
        Kit.due("undo, call 511", x.undo(), 7);
        Kit.due("share, call 512", x.share(), 509 % 101);
        LinkElection loaded = new LinkElection();
        for (int call = 1; call < 511; call += 2) {
            Kit.due("load, call " + (call + 1), Kit.load(loaded, "link;library a 5;"), 1);
        }
        Kit.due("undo, call 511 behind loads", loaded.undo(), 7);
        Kit.due("library, call 512 behind loads", loaded.library(0, 5), 5);
    }

    /** The weight by this expression of a lone library whose trust is 17. */
    private static void weighs(String expression, int due) {
        Kit.due(expression, Kit.made("link;library a 17;weight " + expression + ";").library(0, 5), due);
    }

    /** "Division truncates toward zero." */
    private static void divisionTruncates() {
        weighs("7/2", 3);
        weighs("(0-7)/2+10", 7);
        weighs("7/(0-2)+10", 7);
        weighs("(0-7)/(0-2)", 3);
        weighs("(0-1)/2+1", 1);
        weighs("1/2", 0);
        weighs("(0-6)/2+10", 7);
    }

    /** "A number that is limited to a range becomes the nearer bound": a weight is limited to 0 to 9999. */
    private static void limitedToTheNearerBound() {
        weighs("9998", 9998);
        weighs("9999", 9999);
        weighs("9999+1", 9999);
        weighs("1000*1000", 9999);
        weighs("1-0", 1);
        weighs("1-1", 0);
        weighs("0-1", 0);
        weighs("0-1000*1000", 0);
    }

    /** "There are at most 8 libraries and at most 12 names, with indexes from 0 in the order in which they are told." */
    private static void eightLibrariesAndTwelveNames() {
        LinkElection x = new LinkElection();
        Kit.due("eight libraries", Kit.load(x, "link;" + TWELVE_NAMES + EIGHT_LIBRARIES + "offer a a 3;offer h l 4;"), 8);
        Kit.due("twelve names", x.names(), 12);
        Kit.due("the first pair", x.offer(0, 0), 3);
        Kit.due("the last pair", x.offer(7, 11), 4);
        Kit.due("a ninth library", Kit.load(x, "link;" + EIGHT_LIBRARIES + "library i 1;"), -6);
        Kit.due("a 13th name", Kit.load(x, "link;" + TWELVE_NAMES + "name m;"), -6);
        Kit.due("they change nothing", x.offer(7, 11), 4);
    }

    /** "A library has a trust (0 to 999)." */
    private static void trustFrom0To999() {
        LinkElection x = Kit.made("link;library a 0;library b 999;");
        Kit.due("the least trust", x.library(0, 0), 0);
        Kit.due("the greatest trust", x.library(1, 0), 999);
        Kit.due("a trust above", Kit.load(x, "link;library a 1000;"), -3);
        Kit.due("the greatest trust, set", x.setTrust(0, 999), 0);
        Kit.due("the least trust, set", x.setTrust(1, 0), 999);
        Kit.throwsArgument("a trust above, set", () -> x.setTrust(0, 1000));
        Kit.throwsArgument("a trust below, set", () -> x.setTrust(1, -1));
        Kit.due("the greatest trust stands", x.library(0, 0), 999);
        Kit.due("the least trust stands", x.library(1, 0), 0);
    }

    private static void ranks(String when, LinkElection x, int... due) {
        for (int library = 0; library < due.length; library++) {
            Kit.due("rank of " + library + " " + when, x.library(library, 2), due[library]);
        }
    }

    /** "All libraries of a text are loaded, the first one is the oldest." */
    private static void theFirstOneIsTheOldest() {
        LinkElection x = Kit.made("link;" + EIGHT_LIBRARIES);
        ranks("behind load", x, 0, 1, 2, 3, 4, 5, 6, 7);
        x.unload(0);
        x.reload(0);
        x.unload(7);
        Kit.load(x, "link;" + EIGHT_LIBRARIES);
        ranks("behind another load", x, 0, 1, 2, 3, 4, 5, 6, 7);
    }

    /** "Those that were loaded earlier are older; the ranks are 0 for the oldest one, 1 for the next one, and so on." */
    private static void ranksFollowTheAges() {
        LinkElection x = Kit.made("link;" + EIGHT_LIBRARIES);
        x.unload(0);
        ranks("without the oldest one", x, -1, 0, 1, 2, 3, 4, 5, 6);
        x.unload(7);
        ranks("without the youngest one", x, -1, 0, 1, 2, 3, 4, 5, -1);
        x.unload(3);
        ranks("without one between", x, -1, 0, 1, -1, 2, 3, 4, -1);
        x.reload(7);
        x.reload(3);
        x.reload(0);
        ranks("with all again", x, 7, 0, 1, 6, 2, 3, 4, 5);
        x.unload(7);
        ranks("without one that is older than the first", x, 6, 0, 1, 5, 2, 3, 4, -1);
        x.reload(7);
        for (int library = 0; library < 8; library++) {
            x.unload(library);
        }
        ranks("without any", x, -1, -1, -1, -1, -1, -1, -1, -1);
        x.reload(5);
        ranks("with one", x, -1, -1, -1, -1, -1, 0, -1, -1);
    }

    /** "A library offers at most one definition of a name." */
    private static void oneDefinitionAtMost() {
        LinkElection x = Kit.made("link;name x;library a 1;offer a x 5;");
        x.offerValue(0, 0, 6);
        Kit.due("a value in place of a value", x.offer(0, 0), 6);
        x.offerForward(0, 0, 0);
        Kit.due("a forward in place of a value", x.offer(0, 0), -2);
        Kit.due("still one definition", x.library(0, 3), 1);
        x.withdraw(0, 0);
        Kit.due("none is left", x.offer(0, 0), -1);
        Kit.due("none is counted", x.library(0, 3), 0);
        Kit.due("two in a text", Kit.load(x, "link;name x;library a 1;offer a x 5;offer a x 5;"), -5);
    }

    /** "A value (0 to 9999), or a name to which it forwards." */
    private static void valuesFrom0To9999() {
        LinkElection x = Kit.made("link;name x;name y;library a 1;offer a x 0;offer a y 9999;");
        Kit.due("the least value", x.offer(0, 0), 0);
        Kit.due("the greatest value", x.offer(0, 1), 9999);
        Kit.due("a value above", Kit.load(x, "link;name x;library a 1;offer a x 10000;"), -3);
        x.offerValue(0, 0, 9999);
        x.offerValue(0, 1, 0);
        Kit.due("the greatest value, by a change", x.offer(0, 0), 9999);
        Kit.due("the least value, by a change", x.offer(0, 1), 0);
        Kit.due("the least value is a definition", x.candidates(1), 1);
        LinkElection full = Kit.made("link;" + TWELVE_NAMES + "library a 1;offer a a to l;offer a l to a;");
        Kit.due("a forward to the last name", full.offer(0, 0), -13);
        Kit.due("a forward to the first name", full.offer(0, 11), -2);
    }

    /** "A library has a row of preferences: other libraries, each at most once." */
    private static void preferencesFrom0To7() {
        LinkElection x = Kit.made("link;name n;" + EIGHT_LIBRARIES + "prefer d h;prefer d g;prefer d f;prefer d e;"
            + "prefer d c;prefer d b;prefer d a;");
        Kit.due("no preferences", x.library(0, 4), 0);
        Kit.due("all others", x.library(3, 4), 7);
        for (int library = 0; library < 8; library++) {
            if (library != 3) {
                x.offerValue(library, 0, library);
                Kit.due("the latest candidate comes first", x.vote(3, 0), library);
            }
        }
        x.unload(7);
        Kit.due("an unloaded one is still preferred", x.library(3, 4), 7);
        Kit.due("but is no candidate", x.vote(3, 0), 6);
        Kit.due("itself", Kit.load(x, "link;library a 1;prefer a a;"), -5);
        Kit.due("one for a second time", Kit.load(x, "link;library a 1;library b 1;prefer a b;prefer a b;"), -5);
    }

    /** "The candidates for a name are the loaded libraries that offer a definition of it." */
    private static void candidatesAreLoadedAndOffer() {
        LinkElection x = Kit.made("link;name n;" + EIGHT_LIBRARIES);
        for (int library = 0; library < 8; library++) {
            Kit.due("candidates", x.candidates(0), library);
            x.offerForward(library, 0, 0);
        }
        Kit.due("all are candidates", x.candidates(0), 8);
        for (int library = 0; library < 8; library++) {
            x.unload(library);
            Kit.due("loaded candidates", x.candidates(0), 7 - library);
        }
        x.reload(4);
        Kit.due("one is back", x.candidates(0), 1);
        x.withdraw(4, 0);
        Kit.due("one that offers nothing is none", x.candidates(0), 0);
    }

    /** "For itself, if it is a candidate; otherwise for the first one of its preferences that is a candidate; ..." */
    private static void votes() {
        LinkElection x = Kit.made("link;name n;library a 1;library b 1;library c 1;prefer a b;prefer a c;");
        Kit.due("without candidates it abstains", x.vote(0, 0), -1);
        x.offerValue(2, 0, 1);
        Kit.due("the last preference alone", x.vote(0, 0), 2);
        Kit.due("without preferences it abstains", x.vote(1, 0), -1);
        x.offerValue(1, 0, 1);
        Kit.due("the first preference", x.vote(0, 0), 1);
        x.offerValue(0, 0, 1);
        Kit.due("itself", x.vote(0, 0), 0);
        x.unload(0);
        Kit.due("not loaded", x.vote(0, 0), -1);
        x.reload(0);
        x.withdraw(0, 0);
        x.unload(1);
        x.unload(2);
        Kit.due("no preference is loaded", x.vote(0, 0), -1);
    }

    /** "In the expression, trust is its trust." */
    private static void trustInTheWeight() {
        LinkElection x = Kit.made("link;library a 0;library b 999;weight trust+1;");
        Kit.due("the least trust", x.library(0, 5), 1);
        Kit.due("the greatest trust", x.library(1, 5), 1000);
        x.setTrust(0, 5);
        Kit.due("a trust that was set", x.library(0, 5), 6);
    }

    /** "rank its rank". */
    private static void rankInTheWeight() {
        LinkElection x = Kit.made("link;" + EIGHT_LIBRARIES + "weight rank+1;");
        Kit.due("the oldest one", x.library(0, 5), 1);
        Kit.due("the youngest one", x.library(7, 5), 8);
        x.unload(0);
        Kit.due("it is not loaded", x.library(0, 5), -1);
        Kit.due("the youngest of seven", x.library(7, 5), 7);
        x.reload(0);
        Kit.due("the oldest one is the youngest now", x.library(0, 5), 8);
    }

    /** "offers the number of names that it offers". */
    private static void offersInTheWeight() {
        LinkElection x = Kit.made("link;" + TWELVE_NAMES + "library a 1;library b 1;weight offers+1;");
        Kit.due("none", x.library(0, 5), 1);
        for (int name = 0; name < 12; name++) {
            x.offerValue(0, name, 1);
        }
        Kit.due("all", x.library(0, 5), 13);
        x.offerForward(0, 11, 0);
        Kit.due("a forward counts too", x.library(0, 5), 13);
        x.withdraw(0, 11);
        Kit.due("one less", x.library(0, 5), 12);
        Kit.due("another one's do not count", x.library(1, 5), 1);
    }

    /** "friends the number of loaded libraries that have it among their preferences". */
    private static void friendsInTheWeight() {
        LinkElection x = Kit.made("link;" + EIGHT_LIBRARIES + "prefer b a;prefer c a;prefer d a;prefer e b;prefer e a;"
            + "prefer f a;prefer g a;prefer h a;weight friends+1;");
        Kit.due("all others", x.library(0, 5), 8);
        Kit.due("one, which prefers another one too", x.library(1, 5), 2);
        Kit.due("none", x.library(2, 5), 1);
        x.unload(4);
        Kit.due("loaded ones only", x.library(0, 5), 7);
        Kit.due("none is loaded", x.library(1, 5), 1);
        x.reload(4);
        Kit.due("again", x.library(0, 5), 8);
        x = Kit.made("link;library a 1;library b 1;prefer a b;weight friends+1;");
        Kit.due("the first library is a friend", x.library(1, 5), 2);
        x.unload(0);
        Kit.due("and then none", x.library(1, 5), 1);
    }

    /** "Division by 0 gives 0." */
    private static void divisionBy0() {
        weighs("5/0+3", 3);
        weighs("0/0+3", 3);
        weighs("(0-5)/0+3", 3);
        weighs("5/(1-1)+3", 3);
        weighs("5/(trust-17)+3", 3);
        weighs("5/rank+3", 3);
        weighs("1000*1000/0+3", 3);
        weighs("8/0*2+3", 3);
        weighs("0/5+3", 3);
        LinkElection x = Kit.made("link;library a 3;weight 6/trust+1;");
        Kit.due("before it is 0", x.library(0, 5), 3);
        x.setTrust(0, 0);
        Kit.due("as soon as it is 0", x.library(0, 5), 1);
    }

    /** "The operations of one sum or term are made from the left to the right." */
    private static void leftToRight() {
        weighs("7-2-1", 4);
        weighs("7-2+1", 6);
        weighs("100/7/2", 7);
        weighs("100/7*7", 98);
        weighs("7*100/8", 87);
        weighs("2/4*8", 0);
        weighs("2+3*4-6/2", 11);
        weighs("100-(7-(2-1))", 94);
    }

    /** "The result of each one is limited to the range -1000000 to 1000000": above. */
    private static void operationsLimitedAbove() {
        weighs("1000*1000-1-9999*100", 99);
        weighs("1000*1000-9999*100", 100);
        weighs("1000*1000+1-9999*100", 100);
        weighs("101*9901-9999*100", 100);
        weighs("9999*9999-9999*100", 100);
        weighs("0-(0-1000*1000)-1-9999*100", 99);
        weighs("9999*9999/9999", 100);
        weighs("9999/9999*9999", 9999);
        weighs("(1000*1000)*(1000*1000)/1000", 1000);
        weighs("(0-1000*1000)*(0-1000*1000)/1000", 1000);
        weighs("1000*1000/(0-1)+9999*100+200", 100);
    }

    /** "The result of each one is limited to the range -1000000 to 1000000": below. */
    private static void operationsLimitedBelow() {
        weighs("0-1000*1000+1+9999*100+200", 101);
        weighs("0-1000*1000+9999*100+200", 100);
        weighs("0-1000*1000-1+9999*100+200", 100);
        weighs("(0-101)*9901+9999*100+200", 100);
        weighs("(0-9999)*9999+9999*100+200", 100);
        weighs("(0-1000*1000)*(1000*1000)/1000+1001", 1);
    }

    /** "Without a weight statement the value is trust." */
    private static void plainWeight() {
        LinkElection x = Kit.made("link;library a 0;library b 999;");
        Kit.due("the least", x.library(0, 5), 0);
        Kit.due("the greatest", x.library(1, 5), 999);
        Kit.load(x, "link;library a 3;weight 8;");
        Kit.due("with one", x.library(0, 5), 8);
        Kit.load(x, "link;library a 3;");
        Kit.due("without one again", x.library(0, 5), 3);
    }

    /** "The support is the sum of the weights of all libraries that vote for it": from 0 to 8 times 9999. */
    private static void greatestSupport() {
        LinkElection x = Kit.made("link;name n;" + EIGHT_LIBRARIES + "prefer a h;prefer b h;prefer c h;prefer d h;"
            + "prefer e h;prefer f h;prefer g h;offer h n 1;weight 9999;");
        Kit.due("all vote for one", x.support(7, 0), 79992);
        Kit.due("its margin", x.margin(0), 79992);
        Kit.due("no candidate has none", x.support(0, 0), -1);
        x = Kit.made("link;name n;" + EIGHT_LIBRARIES + "offer h n 1;weight 0;");
        Kit.due("the least support", x.support(7, 0), 0);
        Kit.due("its winner", x.winner(0), 7);
        Kit.due("its margin", x.margin(0), 0);
    }

    /** "The winner is the candidate with the greatest support, of several the oldest one." */
    private static void oldestOfSeveral() {
        LinkElection x = Kit.made("link;name n;library a 4;library b 5;library c 5;library d 5;offer a n 1;"
            + "offer b n 1;offer c n 1;offer d n 1;");
        Kit.due("not the oldest of all", x.winner(0), 1);
        x.unload(1);
        Kit.due("the next one", x.winner(0), 2);
        x.reload(1);
        Kit.due("the first one is younger now", x.winner(0), 2);
        x.unload(2);
        x.reload(2);
        Kit.due("the last one is the oldest now", x.winner(0), 3);
        x.setTrust(0, 5);
        Kit.due("the oldest of all is one of them", x.winner(0), 0);
        x.setTrust(1, 6);
        Kit.due("the greatest support is more than age", x.winner(0), 1);
    }

    /** "100 * the support of this candidate is at least share * the sum." */
    private static void keepsAtLeastTheShare() {
        LinkElection x = Kit.made("link;name n;library a 3;library b 1 keeps;library c 0 keeps;prefer c b;offer a n 1;"
            + "offer b n 1;share 25;");
        Kit.due("the share exactly", x.binding(1, 0), 1);
        Kit.due("a voter's too", x.binding(2, 0), 1);
        x.setShare(26);
        Kit.due("little more than it has", x.binding(1, 0), 0);
        Kit.due("a voter has the winner too", x.binding(2, 0), 0);
        x.setShare(24);
        Kit.due("little less than it has", x.binding(1, 0), 1);
        x.setKeeps(1, false);
        Kit.due("it does not keep", x.binding(1, 0), 0);
        Kit.due("the voter does", x.binding(2, 0), 1);
    }

    /** "... the sum of the supports of all candidates for the name": not of the winner and this one alone. */
    private static void shareOfAllCandidates() {
        LinkElection x = Kit.made("link;name n;library a 20;library b 10 keeps;library c 10;library d 500;offer a n 1;"
            + "offer b n 1;offer c n 1;share 25;");
        Kit.due("10 of 40", x.binding(1, 0), 1);
        x.setTrust(2, 11);
        Kit.due("10 of 41", x.binding(1, 0), 0);
        x.unload(2);
        Kit.due("10 of 30, one that abstains does not count", x.binding(1, 0), 1);
    }

    /** "At least": as near to the share as the numbers allow. */
    private static void shareMissedByLittle() {
        LinkElection x = Kit.made("link;name n;library a 671;library b 329 keeps;offer a n 1;offer b n 1;share 33;");
        Kit.due("329 of 1000 are less than 33 of 100", x.binding(1, 0), 0);
        x.setTrust(0, 667);
        Kit.due("329 of 996 are more", x.binding(1, 0), 1);
        x.setTrust(0, 668);
        Kit.due("329 of 997 are less by one hundredth", x.binding(1, 0), 0);
    }

    /** The same with the greatest numbers there are. */
    private static void shareOfTheGreatestSums() {
        LinkElection x = Kit.made("link;name n;" + EIGHT_LIBRARIES + "prefer a h;prefer b h;prefer c h;prefer d h;"
            + "prefer e h;prefer f h;offer g n 1;offer h n 2;weight 9999;share 12;");
        x.setKeeps(6, true);
        Kit.due("1 of 8 is at least 12 of 100", x.binding(6, 0), 6);
        x.setShare(13);
        Kit.due("1 of 8 is less than 13 of 100", x.binding(6, 0), 7);
        x.setShare(100);
        x.unload(7);
        Kit.due("all of it", x.binding(6, 0), 6);
    }

    /** "At least": a sum of 0 is reached by a support of 0. */
    private static void shareOfNothing() {
        LinkElection x = Kit.made("link;name n;library a 0;library b 0 keeps;offer a n 1;offer b n 1;share 100;");
        Kit.due("nothing of nothing", x.binding(1, 0), 1);
        x.setTrust(0, 1);
        Kit.due("nothing of something", x.binding(1, 0), 0);
    }

    /** "Share is 0 to 100." */
    private static void shareAt0And100() {
        LinkElection x = Kit.made("link;name n;library a 9;library b 0 keeps;offer a n 1;offer b n 1;share 0;");
        Kit.due("at 0 all is enough", x.binding(1, 0), 1);
        x.setShare(1);
        Kit.due("at 1 nothing is too little", x.binding(1, 0), 0);
        x = Kit.made("link;name n;library a 1 keeps;library b 999;library c 0 keeps;offer a n 1;prefer c a;share 100;");
        Kit.due("at 100 all of it is enough", x.binding(2, 0), 0);
        x = Kit.made("link;name n;library a 1;library b 999 keeps;library c 999;library d 0;prefer c b;offer b n 1;"
            + "offer d n 2;offer a n 3;share 100;");
        Kit.due("at 100 not all of it is too little, but it is the winner", x.binding(1, 0), 1);
        Kit.due("share above", Kit.load(x, "link;share 101;"), -3);
    }

    /** "Without candidates there is none"; "a name without candidates has none". */
    private static void noCandidates() {
        LinkElection x = Kit.made("link;name n;library a 1 keeps;library b 1;prefer a b;share 0;");
        Kit.due("winner", x.winner(0), -1);
        Kit.due("margin", x.margin(0), -1);
        Kit.due("binding of one that keeps", x.binding(0, 0), -1);
        Kit.due("binding of another one", x.binding(1, 0), -1);
        Kit.due("minority", x.minority(0), 0);
        Kit.due("users", x.users(1, 0), 0);
        Kit.due("call", x.call(0, 0), -1);
        Kit.due("steps", x.steps(0, 0), 0);
    }

    private static void goes(LinkElection x, int library, int name, int result, int steps) {
        Kit.due("call(" + library + ", " + name + ")", x.call(library, name), result);
        Kit.due("steps(" + library + ", " + name + ")", x.steps(library, name), steps);
    }

    /** "If this is a value, this is the result": from 0 to 9999. */
    private static void resultOfAValue() {
        LinkElection x = Kit.made("link;name x;name y;library a 1;offer a x 0;offer a y 9999;");
        goes(x, 0, 0, 0, 1);
        goes(x, 0, 1, 9999, 1);
    }

    /** "The call goes on as a call of that name by the library whose definition it was." */
    private static void goesOnByTheLibraryOfTheDefinition() {
        // c keeps b's x, but b itself does not keep and has a's y.
        LinkElection x = Kit.made("link;name x;name y;library a 9;library b 1;library c 0 keeps;library d 0 keeps;"
            + "offer a x 1;offer b x to y;offer a y 2;offer d y 3;prefer c b;share 0;");
        goes(x, 2, 0, 2, 2);
        x.setKeeps(1, true);
        goes(x, 2, 0, 2, 2);
        x.offerValue(1, 1, 4);
        goes(x, 2, 0, 4, 2);
        x.setKeeps(1, false);
        goes(x, 2, 0, 2, 2);
        // A forward to the same name: c goes to b's x, b goes to a's x.
        x.offerForward(1, 0, 0);
        goes(x, 2, 0, 1, 2);
    }

    /** "The call is lost if it comes to a name without candidates." */
    private static void lostBehindForwards() {
        LinkElection x = Kit.made("link;name x;name y;name z;library a 1;offer a x to y;offer a y to z;");
        goes(x, 0, 2, -1, 0);
        goes(x, 0, 1, -1, 1);
        goes(x, 0, 0, -1, 2);
        x.offerValue(0, 2, 6);
        goes(x, 0, 0, 6, 3);
    }

    /** "It is a loop if it comes to the same library and name, as a call, for a second time": at once. */
    private static void loopAtOnce() {
        LinkElection x = Kit.made("link;name x;library a 1;library b 0;offer a x to x;");
        goes(x, 0, 0, -2, 1);
        // The same name, but by another library first.
        goes(x, 1, 0, -2, 2);
    }

    /** The same, later: the way into the loop counts, and each definition in it once. */
    private static void loopBehindForwards() {
        LinkElection x = Kit.made("link;name x;name y;name z;library a 1;library b 1;offer a x to y;offer b y to z;"
            + "offer a z to y;");
        goes(x, 0, 0, -2, 3);
        goes(x, 0, 1, -2, 2);
        goes(x, 1, 1, -2, 3);
        goes(x, 1, 2, -2, 2);
        x.offerValue(0, 2, 5);
        goes(x, 0, 0, 5, 3);
    }

    /**
     * A call comes to each library and name at most once before it is a loop, so that a way may be long. Each
     * library keeps its own definitions and forwards each name to the next one; the one name that it does not
     * offer leads to the next library, which must not come back to the name at which it was entered.
     */
    private static void longestWay() {
        LinkElection x = Kit.made("link;" + TWELVE_NAMES + EIGHT_LIBRARIES + "prefer a b;prefer b c;prefer c d;"
            + "prefer d e;prefer e f;prefer f g;prefer g h;share 0;");
        for (int library = 0; library < 8; library++) {
            x.setKeeps(library, true);
            for (int name = 0; name < 12; name++) {
                if (library == 7 || name != exit(library)) {
                    x.offerForward(library, name, (name + 1) % 12);
                }
            }
        }
        // 12 calls by the first library, 11 by each one between, 12 by the last one, and then the loop.
        goes(x, 0, 0, -2, 12 + 6 * 11 + 12);
        x.offerValue(7, exit(6) - 1, 4321);
        goes(x, 0, 0, 4321, 12 + 6 * 11 + 11);
    }

    /** A library that is entered at the name behind the exit of the one before it comes to 10 more before its own. */
    private static int exit(int library) {
        return 11 - library;
    }
}
