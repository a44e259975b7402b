/** The edges that the document names for the buffer and the setup text: one test a sentence, which stands above it. */
public final class TextEdgeTests {
    private static final String HEAD = "link;name x;name y;library a 1;library b 2;";
    private static final String TWELVE_NAMES =
        "name a;name b;name c;name d;name e;name f;name g;name h;name i;name j;name k;name l;";
    private static final String EIGHT_LIBRARIES = "library a 1;library b 1;library c 1;library d 1;library e 1;"
        + "library f 1;library g 1;library h 1;";

    public static void main(String[] args) {
        bufferOf800Bytes();
        numbersOfAnyLength();
        wordsOf1To8Letters();
        runsAreAsLongAsPossible();
        anyWords();
        spacesAnywhere();
        noSpacesBetweenWordAndNumber();
        noOtherByteSeparates();
        bytesBesideTheLettersAndDigits();
        emptyStatements();
        keepsIsOptional();
        forwardToTheSameName();
        preferencesComeToTheEnd();
        shareIs50WithoutIt();
        factorsFrom0To9999();
        parenthesesAtMost4Deep();
        shareAndWeightOnce();
        tokenNotAllowed();
        endTooEarly();
        runOfMoreThan8Letters();
        secondShareOrWeight();
        outOfRange();
        unknown();
        toldBefore();
        duplicateNameOrLibrary();
        duplicateOffer();
        duplicatePrefer();
        tooMany();
        tooDeep();
        smallestOffset();
        sameOffset();
        Kit.end("TextEdgeTests");
    }

    private static LinkElection loads(String text, int libraries) {
        LinkElection x = new LinkElection();
        Kit.due("load of '" + text + "'", Kit.load(x, text), libraries);
        Kit.due("offset in '" + text + "'", x.errorOffset(), -1);
        return x;
    }

    /** The error is at the first of the letters '^', which are no part of the text; none stands for its end. */
    private static void fails(int code, String marked) {
        int offset = marked.indexOf('^');
        String text = marked.replace("^", "");
        LinkElection x = Kit.made("link;share 77;");
        Kit.due("load of '" + text + "'", Kit.load(x, text), code);
        Kit.due("offset in '" + text + "'", x.errorOffset(), offset < 0 ? text.length() : offset);
        Kit.due("share behind '" + text + "'", x.share(), 77);
        Kit.due("undo behind '" + text + "'", x.undo(), 0);
    }

    private static String repeated(String part, int times) {
        StringBuilder text = new StringBuilder();
        for (int i = 0; i < times; i++) {
            text.append(part);
        }
        return text.toString();
    }

    /** "The setup text is read from an input buffer of at most 800 bytes." */
    private static void bufferOf800Bytes() {
        String end = "library b 2;offer b x 3;";
        String start = "link;name x;";
        String text = start + repeated(" ", 800 - start.length() - end.length()) + end;
        LinkElection x = loads(text, 1);
        Kit.due("the last statement of 800 bytes", x.offer(0, 0), 3);
        fails(-2, text.substring(0, 799));
        fails(-2, text.substring(0, 799) + "^+");
        fails(-2, "link;" + repeated(" ", 794) + "^;");
        x = loads("link;library a 1;weight " + repeated("1+", 387) + "2;", 1);
        Kit.due("the longest sum", x.library(0, 5), 389);
        x = loads("link;library a 1;weight 7" + repeated("*1", 387) + ";", 1);
        Kit.due("the longest term", x.library(0, 5), 7);
    }

    /** "A number is a run of decimal digits, of any length (leading zeros do not matter)." */
    private static void numbersOfAnyLength() {
        LinkElection x = loads("link;library a " + repeated("0", 700) + "999;share " + repeated("0", 40) + ";", 1);
        Kit.due("700 zeros before the trust", x.library(0, 0), 999);
        Kit.due("a share of 40 zeros", x.share(), 0);
        fails(-3, "link;library a ^" + repeated("0", 700) + "1000;");
        fails(-3, "link;library a ^1" + repeated("0", 700) + ";");
        fails(-3, "link;library a ^" + repeated("9", 780) + ";");
        // Numbers that wrap around to allowed ones in 32 and 64 bits.
        fails(-3, "link;library a ^4294967296;");
        fails(-3, "link;library a ^4294967301;");
        fails(-3, "link;library a ^2147483648;");
        fails(-3, "link;library a ^18446744073709551616;");
        fails(-3, "link;library a ^18446744073709551621;");
        fails(-3, "link;share ^8589934592;");
        fails(-3, "link;weight ^4294967297;");
    }

    /** "A run of the letters a to z is a word if it has 1 to 8 letters." */
    private static void wordsOf1To8Letters() {
        LinkElection x = loads("link;name a;name z;name abcdefgh;name abcdefgz;name zbcdefgh;library a 1;"
            + "library zzzzzzzz 1;offer zzzzzzzz abcdefgz 1;offer zzzzzzzz zbcdefgh 2;offer a z 3;", 2);
        Kit.due("8 letters, the last one differs", x.offer(1, 3), 1);
        Kit.due("8 letters, the first one differs", x.offer(1, 4), 2);
        Kit.due("1 letter", x.offer(0, 1), 3);
        Kit.due("another one of 8 letters", x.offer(1, 2), -1);
        fails(-2, "link;name ^abcdefghi;");
        fails(-2, "link;library ^abcdefghi 1;");
        // A word is not told by its beginning.
        fails(-4, "link;name abcdefgh;library a 1;offer a ^abcdefg 1;");
        fails(-4, "link;name abcdefg;library a 1;offer a ^abcdefgh 1;");
    }

    /** "Each run is as long as possible." */
    private static void runsAreAsLongAsPossible() {
        fails(-2, "^linkname x;");
        fails(-2, "link;^namex;");
        fails(-2, "link;^librarya 1;");
        fails(-4, HEAD + "offer ^ax 1;");
        fails(-2, HEAD + "offer a x ^tox;");
        fails(-2, HEAD + "^preferab;");
        fails(-2, "link;library a 1 ^keepskeeps;");
        fails(-2, "link;weight ^trustrank;");
        fails(-2, "link;library a 1 ^1;");
        fails(-2, "link;share 1 ^0;");
        fails(-2, "link;weight 1 ^2;");
        Kit.due("12 is one number", Kit.made("link;share 12;").share(), 12);
    }

    /** "Words in the grammar can be any words." */
    private static void anyWords() {
        LinkElection x = loads("link;name link;name name;name library;name keeps;name offer;name to;name prefer;name share;"
            + "name weight;name trust;library trust 1;library rank 1;library offers 1;library friends 1;"
            + "library keeps 1 keeps;library to 1;library link 1;prefer keeps to;prefer to keeps;offer to to to to;"
            + "offer keeps keeps 1;offer link share to weight;", 7);
        Kit.due("offer to to to to", x.offer(5, 5), -7);
        Kit.due("library keeps 1 keeps", x.library(4, 1), 1);
        Kit.due("library to 1", x.library(5, 1), 0);
        Kit.due("offer keeps keeps 1", x.offer(4, 3), 1);
        Kit.due("offer link share to weight", x.offer(6, 7), -10);
    }

    /** "Spaces (byte 32) may precede any token and may follow the last one." */
    private static void spacesAnywhere() {
        LinkElection x = loads("   link   ;   name   x   ;   library   a   7   keeps   ;   offer   a   x   to   x   ;   "
            + "library   b   1   ;   prefer   a   b   ;   share   9   ;   weight   (   trust   +   2   )   *   3   ;   ", 2);
        Kit.due("its weight", x.library(0, 5), 27);
        Kit.due("its share", x.share(), 9);
        loads("link;" + repeated(" ", 795), 0);
        loads(repeated(" ", 795) + "link;", 0);
        fails(-2, "^lin k;");
        fails(-2, "link;library a 1 ^keep s;");
        fails(-2, "link;^na me x;");
    }

    /** "A word and a number side by side need none between them." */
    private static void noSpacesBetweenWordAndNumber() {
        LinkElection x = loads("link;share7;name x;library a5keeps;library b6;offer a x9;weight2+3;", 2);
        Kit.due("share7", x.share(), 7);
        Kit.due("a5", x.library(0, 0), 5);
        Kit.due("5keeps", x.library(0, 1), 1);
        Kit.due("x9", x.offer(0, 0), 9);
        Kit.due("weight2", x.library(1, 5), 5);
        // It is still a word and a number, where only one of them may stand.
        fails(-2, "link;name x^5;");
        fails(-2, "link;name ^5x;");
        fails(-2, "link;share 5^x;");
    }

    /** "No other byte separates tokens." */
    private static void noOtherByteSeparates() {
        for (int other : new int[] {0, 1, 8, 9, 10, 11, 12, 13, 31, 33, 95, 127, 128, 133, 160, 223, 255}) {
            String sign = "" + (char) other;
            fails(-2, "^" + sign + "link;");
            fails(-2, "link^" + sign + ";");
            fails(-2, "link;^" + sign + "name x;");
            fails(-2, "link;name^" + sign + "x;");
            fails(-2, "link;name x^" + sign + ";");
            fails(-2, "link;share 5^" + sign + ";");
            fails(-2, "link;weight 5^" + sign + ";");
            fails(-2, "link;weight ^" + sign + "5;");
            fails(-2, "link;^" + sign);
        }
    }

    /** "Decimal digits", "the letters a to z": the bytes just beside them are none. */
    private static void bytesBesideTheLettersAndDigits() {
        for (char other : new char[] {'`', '{', 'A', 'Z', '@', '['}) {
            fails(-2, "link;name ^" + other + ";");
            fails(-2, "link;name a^" + other + ";");
            fails(-2, "link;name ^" + other + "a;");
        }
        for (char other : new char[] {'/', ':', '.', ','}) {
            fails(-2, "link;share ^" + other + ";");
            fails(-2, "link;share 5^" + other + ";");
            fails(-2, "link;share ^" + other + "5;");
        }
    }

    /** "link" ";" { statement ";" }: no statement, and none between two signs. */
    private static void emptyStatements() {
        LinkElection x = loads("link;", 0);
        Kit.due("names", x.names(), 0);
        Kit.due("share", x.share(), 50);
        fails(-2, "link;^;");
        fails(-2, "link;name x;^;name y;");
        fails(-2, "^;link;");
        loads("link;name x;", 0);
        loads("link;library a 1;", 1);
    }

    /** "library" word number [ "keeps" ]. */
    private static void keepsIsOptional() {
        LinkElection x = loads("link;library a 1;library b 1 keeps;library c 1;", 3);
        Kit.due("without it", x.library(0, 1), 0);
        Kit.due("with it", x.library(1, 1), 1);
        Kit.due("without it again", x.library(2, 1), 0);
        fails(-2, "link;library a ^keeps;");
        fails(-2, "link;library a 1 keeps ^keeps;");
        fails(-2, "link;library a 1 ^keep;");
        fails(-2, "link;library a 1 ^b;");
    }

    /** "The name to which it forwards (it may be the same name)." */
    private static void forwardToTheSameName() {
        LinkElection x = loads(HEAD + "offer a x to x;offer a y to x;offer b x to y;", 2);
        Kit.due("the same name", x.offer(0, 0), -2);
        Kit.due("an earlier name", x.offer(0, 1), -2);
        Kit.due("a later name", x.offer(1, 0), -3);
        Kit.due("a loop at once", x.call(0, 0), -2);
    }

    /** "Another one that comes to the end of its preferences." */
    private static void preferencesComeToTheEnd() {
        LinkElection x = loads("link;name n;library a 1;library b 1;library c 1;library d 1;offer b n 1;offer c n 1;"
            + "prefer a d;prefer d b;prefer a c;prefer d c;prefer a b;", 4);
        Kit.due("c before b", x.vote(0, 0), 2);
        Kit.due("b before c", x.vote(3, 0), 1);
        x.offerValue(3, 0, 1);
        Kit.due("d before c and b", x.vote(0, 0), 3);
    }

    /** "share tells the share (50 without it)"; "share is 0 to 100". */
    private static void shareIs50WithoutIt() {
        LinkElection x = loads("link;share 0;", 0);
        Kit.due("the least", x.share(), 0);
        Kit.due("without it", Kit.load(x, "link;"), 0);
        Kit.due("50 again", x.share(), 50);
        Kit.due("the greatest", loads("link;share 100;", 0).share(), 100);
        fails(-3, "link;share ^101;");
    }

    /** "A number as a factor is 0 to 9999." */
    private static void factorsFrom0To9999() {
        Kit.due("the least", loads("link;library a 1;weight 0;", 1).library(0, 5), 0);
        Kit.due("the greatest", loads("link;library a 1;weight 9999;", 1).library(0, 5), 9999);
        fails(-3, "link;weight ^10000;");
        fails(-3, "link;weight 1+^10000;");
        fails(-3, "link;weight 1*^10000;");
        fails(-3, "link;weight (^10000);");
        fails(-2, "link;weight ^-1;");
    }

    /** "Parentheses nest at most 4 deep." */
    private static void parenthesesAtMost4Deep() {
        Kit.due("4 deep", loads("link;library a 1;weight ((((5))));", 1).library(0, 5), 5);
        Kit.due("4 deep, several times", loads("link;library a 1;weight ((((5))))-((((2))))*((((1))));", 1).library(0, 5), 3);
        Kit.due("many side by side", loads("link;library a 1;weight (1)+(1)+(1)+(1)+(1)+(1);", 1).library(0, 5), 6);
        Kit.due("a value waits on each side of each level",
            loads("link;library a 1;weight 1+2*(3+4*(5+6*(7+8*(9+10*11))));", 1).library(0, 5), 9999);
        Kit.due("and less of it",
            loads("link;library a 1;weight 9000-2*(3+4*(5+6*(7+1*(9+2*3))));", 1).library(0, 5), 9000 - 2 * 551);
        fails(-7, "link;weight ((((^(5)))));");
        fails(-7, "link;weight ((((5))))+((((^(5)))));");
    }

    /** "The statements share and weight may each occur once." */
    private static void shareAndWeightOnce() {
        LinkElection x = loads("link;share 1;weight 2;library a 1;", 1);
        Kit.due("share", x.share(), 1);
        Kit.due("weight", x.library(0, 5), 2);
        x = loads("link;library a 1;weight 3;share 4;", 1);
        Kit.due("share behind weight", x.share(), 4);
        Kit.due("weight before share", x.library(0, 5), 3);
        fails(-2, "link;share 1;weight 2;^share 1;");
        fails(-2, "link;share 1;weight 2;^weight 2;");
        // Once in each text, not once for ever; also behind a text with an error.
        Kit.due("a next text", Kit.load(x, "link;share 5;weight 6;library a 1;"), 1);
        Kit.due("a text with an error", Kit.load(x, "link;share 7;weight 8;share"), -2);
        Kit.due("the text behind it", Kit.load(x, "link;share 9;weight 10;library a 1;"), 1);
        Kit.due("its share", x.share(), 9);
    }

    /** "A token or byte that the grammar does not allow here, at its first byte." */
    private static void tokenNotAllowed() {
        fails(-2, "^name x;");
        fails(-2, "^5;");
        fails(-2, "link ^link;");
        fails(-2, "link;^link;");
        fails(-2, "link;^to;");
        fails(-2, "link;^keeps;");
        fails(-2, "link;^trust;");
        fails(-2, "link;^7;");
        fails(-2, "link;^+;");
        fails(-2, "link;name ^;");
        fails(-2, "link;name x ^y;");
        fails(-2, "link;library ^7 7;");
        fails(-2, "link;library a ^;");
        fails(-2, "link;library a ^b 7;");
        fails(-2, HEAD + "offer ^;");
        fails(-2, HEAD + "offer a ^7;");
        fails(-2, HEAD + "offer a x ^;");
        fails(-2, HEAD + "offer a x ^y;");
        fails(-2, HEAD + "offer a x to ^7;");
        fails(-2, HEAD + "offer a x to y ^7;");
        fails(-2, HEAD + "offer a x 7 ^to y;");
        fails(-2, HEAD + "offer a x ^-7;");
        fails(-2, HEAD + "prefer ^;");
        fails(-2, HEAD + "prefer a ^;");
        fails(-2, HEAD + "prefer a b ^a;");
        fails(-2, "link;share ^;");
        fails(-2, "link;share ^x;");
        fails(-2, "link;share 7 ^%;");
        fails(-2, "link;weight ^;");
        fails(-2, "link;weight ^keeps;");
        fails(-2, "link;weight 1+^;");
        fails(-2, "link;weight 1*^*2;");
        fails(-2, "link;weight (^);");
        fails(-2, "link;weight (1^;");
        fails(-2, "link;weight 1^);");
        fails(-2, "link;weight 1^(2);");
        fails(-2, "link;weight (1)^2;");
        fails(-2, "link;weight trust ^rank;");
    }

    /** "The end of the text, at its length, if the text ends too early." */
    private static void endTooEarly() {
        String whole = HEAD + "offer a x to y;offer b y 5;prefer a b;share 5;weight (1+trust)*2;library c 1 keeps;";
        for (int length = 0; length < whole.length(); length++) {
            String cut = whole.substring(0, length);
            if (cut.endsWith(";")) {
                loads(cut, cut.split("library").length - 1);
                fails(-2, cut + "^;");
            } else if (!endsWithinAWord(whole, length)) {
                fails(-2, cut);
                fails(-2, cut + "   ");
            }
        }
        fails(-2, "");
        fails(-2, " ");
        fails(-2, repeated(" ", 800));
        fails(-2, "link;share 5");
        fails(-2, "link;name x ");
        fails(-2, "link;library a 1 keeps");
        fails(-2, "link;weight ((((");
    }

    private static boolean endsWithinAWord(String whole, int length) {
        return length > 0 && Character.isLetter(whole.charAt(length - 1)) && Character.isLetter(whole.charAt(length));
    }

    /** "A run of more than 8 letters, at its first letter." */
    private static void runOfMoreThan8Letters() {
        String nine = "^abcdefghi";
        fails(-2, "^linklinkl;");
        fails(-2, "link;" + nine + ";");
        fails(-2, "link;name " + nine + ";");
        fails(-2, "link;library " + nine + " 5;");
        fails(-2, "link;library a 5 " + nine + ";");
        fails(-2, HEAD + "offer " + nine + " x 5;");
        fails(-2, HEAD + "offer a " + nine + " 5;");
        fails(-2, HEAD + "offer a x " + nine + ";");
        fails(-2, HEAD + "offer a x to " + nine + ";");
        fails(-2, HEAD + "prefer " + nine + " a;");
        fails(-2, HEAD + "prefer a " + nine + ";");
        fails(-2, "link;share " + nine + ";");
        fails(-2, "link;weight " + nine + ";");
        fails(-2, "link;name ^" + repeated("z", 780) + ";");
        // Runs of which the first or last 8 letters are a word of the grammar, or one that was told.
        fails(-2, "link;^librarylibrary a 1;");
        fails(-2, "link;^aaname x;");
        fails(-2, "link;weight ^afriends;");
        fails(-2, "link;name abcdefgh;name ^abcdefghi;");
        fails(-2, "link;name bcdefghi;library a 1;offer a ^abcdefghi 1;");
    }

    /** "A second share or weight, at its first letter." */
    private static void secondShareOrWeight() {
        fails(-2, "link;share 1;^share 1;");
        fails(-2, "link;share 1;name x;  ^share 101;");
        fails(-2, "link;share 1;^share");
        fails(-2, "link;weight 1;^weight 10000;");
        fails(-2, "link;weight 1;^weight");
        fails(-2, "link;weight 1;share 1;^weight 1;share 1;");
    }

    /** "A number outside its range, at its first digit." */
    private static void outOfRange() {
        loads("link;library a 999;", 1);
        fails(-3, "link;library a ^1000;");
        fails(-3, "link;library a ^0001000 keeps;");
        loads("link;share 100;", 0);
        fails(-3, "link;share ^101;");
        loads(HEAD + "offer a x 9999;", 2);
        fails(-3, HEAD + "offer a x ^10000;");
        loads("link;weight 9999;", 0);
        fails(-3, "link;weight ^10000;");
        fails(-3, "link;weight trust*(rank+^10000);");
    }

    /** "A word that must tell a library or a name, but none that was told before, at its first letter." */
    private static void unknown() {
        fails(-4, HEAD + "offer ^z x 1;");
        fails(-4, HEAD + "offer ^x x 1;");
        fails(-4, HEAD + "offer a ^z 1;");
        fails(-4, HEAD + "offer a ^a 1;");
        fails(-4, HEAD + "offer a x to ^z;");
        fails(-4, HEAD + "offer a x to ^a;");
        fails(-4, HEAD + "prefer ^z a;");
        fails(-4, HEAD + "prefer ^x a;");
        fails(-4, HEAD + "prefer a ^z;");
        fails(-4, HEAD + "prefer a ^x;");
        fails(-4, "link;offer ^a x 1;");
        fails(-4, "link;prefer ^a b;");
        fails(-4, "link;library a 1;offer a ^x 1;");
    }

    /** "None that was told before": in this text, and before this word. */
    private static void toldBefore() {
        fails(-4, "link;library a 1;offer a ^x 1;name x;");
        fails(-4, "link;name x;offer ^a x 1;library a 1;");
        fails(-4, "link;name x;library a 1;offer a x to ^y;name y;");
        fails(-4, "link;library a 1;prefer a ^b;library b 1;");
        LinkElection x = loads(HEAD, 2);
        Kit.due("told in an earlier text", Kit.load(x, "link;name x;library c 1;offer a x 1;"), -4);
        Kit.due("its offset", x.errorOffset(), 30);
        loads("link;library a 1;name x;offer a x 1;library b 1;prefer a b;name y;offer b y to x;", 2);
    }

    /** "The word behind name or library, if a name or a library, respectively, has it already." */
    private static void duplicateNameOrLibrary() {
        fails(-5, HEAD + "name ^x;");
        fails(-5, HEAD + "name ^y;");
        fails(-5, HEAD + "library ^a 1;");
        fails(-5, HEAD + "library ^b 1;");
        LinkElection x = loads("link;name a;library a 1;library x 1;name x;", 2);
        Kit.due("a name and a library may have one word", x.names(), 2);
        Kit.due("told in an earlier text", Kit.load(x, "link;name a;library a 1;"), 1);
        fails(-5, "link;" + TWELVE_NAMES.replace("name l;", "name ^a;"));
        fails(-5, "link;" + EIGHT_LIBRARIES.replace("library h", "library ^g"));
    }

    /** "The second word of offer, if the library offers this name already." */
    private static void duplicateOffer() {
        fails(-5, HEAD + "offer a x 1;offer a ^x 1;");
        fails(-5, HEAD + "offer a x 0;offer a ^x to y;");
        fails(-5, HEAD + "offer a x to x;offer a ^x 1;");
        fails(-5, HEAD + "offer a x to y;offer b x 1;offer a y 1;offer a ^x to y;");
        loads(HEAD + "offer a x 1;offer b x 1;offer a y 1;offer b y 1;", 2);
    }

    /** "The second word of prefer, if it is the library itself or among its preferences already." */
    private static void duplicatePrefer() {
        fails(-5, HEAD + "prefer a ^a;");
        fails(-5, HEAD + "prefer b ^b;");
        fails(-5, HEAD + "prefer a b;prefer a ^b;");
        fails(-5, HEAD + "library c 1;prefer a b;prefer a c;prefer a ^b;");
        loads(HEAD + "library c 1;prefer a b;prefer a c;prefer b a;prefer b c;prefer c a;prefer c b;", 3);
        fails(-5, "link;" + EIGHT_LIBRARIES + "prefer a b;prefer a c;prefer a d;prefer a e;prefer a f;prefer a g;"
            + "prefer a h;prefer a ^h;");
    }

    /** "A 13th name or a 9th library, at the first letter of its statement." */
    private static void tooMany() {
        LinkElection x = loads("link;" + TWELVE_NAMES + EIGHT_LIBRARIES, 8);
        Kit.due("twelve names", x.names(), 12);
        fails(-6, "link;" + TWELVE_NAMES + "^name m;");
        fails(-6, "link;" + TWELVE_NAMES + EIGHT_LIBRARIES + "  ^name m;");
        fails(-6, "link;" + EIGHT_LIBRARIES + "^library i 1;");
        fails(-6, "link;" + EIGHT_LIBRARIES + TWELVE_NAMES + "  ^library i 1 keeps;");
        // The place before the word and the number counts, though they are wrong too.
        fails(-6, "link;" + TWELVE_NAMES + "^name a;");
        fails(-6, "link;" + EIGHT_LIBRARIES + "^library a 1;");
        fails(-6, "link;" + EIGHT_LIBRARIES + "^library i 1000;");
    }

    /** "An opening parenthesis inside 4 others, at that parenthesis." */
    private static void tooDeep() {
        fails(-7, "link;weight ((((^(");
        fails(-7, "link;weight ((((  ^(1)))));");
        fails(-7, "link;weight ((((1+2*^(1)))));");
        fails(-7, "link;weight (1+(1+(1+(1+^(1)))));");
        loads("link;weight ((((1)+(1))));", 0);
    }

    /** "The first error in the text is the one with the smallest offset." */
    private static void smallestOffset() {
        fails(-2, HEAD + "^bad;offer z x 1;name x;share 101;");
        fails(-3, "link;share ^101;bad;");
        fails(-4, HEAD + "offer a ^z 10000 bad;");
        fails(-5, HEAD + "name ^x bad;");
        fails(-5, HEAD + "library ^a 1000;");
        fails(-6, "link;" + TWELVE_NAMES + "^name m;bad;");
        fails(-7, "link;weight ((((^(bad;");
        fails(-3, "link;weight ((((^10000+(1)))));");
        fails(-4, HEAD + "prefer ^z z;");
        fails(-4, HEAD + "offer a x to ^z;" + "bad;");
        fails(-5, HEAD + "prefer a ^a bad;");
    }

    /** "If several kinds of error have the same offset, the first one in this list counts." */
    private static void sameOffset() {
        // SYNTAX_ERROR before OUT_OF_RANGE: a number that is too large where none is allowed.
        fails(-2, "link;^10000;");
        fails(-2, "link;name ^10000;");
        fails(-2, "link;library a 1 ^10000;");
        fails(-2, HEAD + "prefer a ^10000;");
        fails(-2, "link;weight 1 ^10000;");
        // SYNTAX_ERROR before UNKNOWN: a run that is too long where a word must be known.
        fails(-2, HEAD + "offer ^abcdefghi x 1;");
        fails(-2, HEAD + "offer a ^abcdefghi 1;");
        fails(-2, HEAD + "prefer a ^abcdefghi;");
        // SYNTAX_ERROR before TOO_DEEP: a parenthesis inside 4 others where an operation must stand.
        fails(-2, "link;weight ((((1^(1)))));");
        fails(-2, "link;weight ((((1)^(1)))));");
        // SYNTAX_ERROR, not TOO_MANY: a run that only begins like the word of a statement.
        fails(-2, "link;" + TWELVE_NAMES + "^names m;");
        fails(-2, "link;" + EIGHT_LIBRARIES + "^librarys i 1;");
    }
}
