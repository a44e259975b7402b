/** Promises 1 to 4: the new object, the buffer, the setup text and its errors. */
public final class SetupTests {
    private static final String HEAD = "link;name x;name y;library a 1;library b 2;";

    public static void main(String[] args) {
        promise1();
        promise2();
        promise3Buffer();
        promise3Replaces();
        promise3Grammar();
        promise3Limits();
        promise3SyntaxErrors();
        promise3OtherErrors();
        promise3Precedence();
        promise3Weights();
        promise4();
        Kit.end("SetupTests");
    }

    private static void promise1() {
        LinkElection x = new LinkElection();
        Kit.due("1 libraries", x.libraries(), 0);
        Kit.due("1 names", x.names(), 0);
        Kit.due("1 share", x.share(), 50);
        Kit.due("1 errorOffset", x.errorOffset(), -1);
        Kit.due("1 checksum", x.checksum(), 50);
        Kit.due("1 undo", x.undo(), -1);
        Kit.throwsArgument("1 load(1)", () -> x.load(1));
        LinkElection other = Kit.made(HEAD);
        Kit.due("1 two objects", x.libraries() * 10 + other.libraries(), 2);
    }

    private static void promise2() {
        LinkElection x = new LinkElection();
        for (int i = 1; i <= 40; i++) {
            Kit.due("2 append " + i, x.append(0x6c696e6b, 0x3b202020, 0x20202020, 0x20202020, 0x20202020), 20 * i);
        }
        Kit.due("2 append to a full buffer", x.append(0, 0, 0, 0, 0), -1);
        Kit.due("2 append to a full buffer again", x.append(0, 0, 0, 0, 0), -1);
        Kit.throwsArgument("2 load(801)", () -> x.load(801));
        Kit.due("2 load of the second link", x.load(800), -2);
        Kit.due("2 its offset", x.errorOffset(), 20);
        Kit.due("2 append after load", x.append(0x6c696e6b, 0x3b6e616d, 0x65206162, 0x63646566, 0x67683bff), 20);
        Kit.due("2 the byte 255 is the last one", x.load(20), -2);
        Kit.due("2 its place", x.errorOffset(), 19);
        x.append(0x6c696e6b, 0x3b6e616d, 0x65206162, 0x63646566, 0x67683bff);
        Kit.due("2 without it", x.load(19), 0);
        Kit.due("2 one name", x.names(), 1);
    }

    private static void promise3Buffer() {
        LinkElection x = new LinkElection();
        Kit.append(x, "link;name x;library a 1;");
        Kit.throwsArgument("3 load(-1)", () -> x.load(-1));
        Kit.throwsArgument("3 load(41)", () -> x.load(41));
        Kit.throwsArgument("3 load(MIN)", () -> x.load(Integer.MIN_VALUE));
        Kit.throwsArgument("3 load(MAX)", () -> x.load(Integer.MAX_VALUE));
        Kit.due("3 the buffer is unchanged by exceptions", x.load(24), 1);
        Kit.throwsArgument("3 the buffer is empty after a load", () -> x.load(1));
        Kit.append(x, "nonsense");
        Kit.due("3 an error", x.load(8), -2);
        Kit.throwsArgument("3 the buffer is empty after an error", () -> x.load(1));
        Kit.due("3 an empty text", x.load(0), -2);
        Kit.due("3 its offset", x.errorOffset(), 0);
        Kit.append(x, "link;   ");
        Kit.due("3 a text with spaces at its end", x.load(8), 0);
        Kit.append(x, "link    ");
        Kit.due("3 only the first bytes count", x.load(7), -2);
        Kit.due("3 the end is the length", x.errorOffset(), 7);
    }

    private static void promise3Replaces() {
        LinkElection x = Kit.made("link;name x;library a 1 keeps;offer a x 5;share 7;weight 3;");
        long before = x.checksum();
        Kit.due("3 an error", Kit.load(x, "link;share 9;weight 4;name y;library a 2;library b 3;library a 3;"), -5);
        Kit.due("3 an error leaves the data", x.checksum(), before);
        Kit.due("3 an error is no change", x.undo(), 0);
        Kit.due("3 the load is undone", x.libraries(), 0);
        x = Kit.made("link;name x;library a 1 keeps;library b 1;prefer a b;offer a x 5;share 7;weight 3;");
        Kit.due("3 the next text", Kit.load(x, "link;name y;library b 2;"), 1);
        Kit.due("3 names", x.names(), 1);
        Kit.due("3 share is the plain one", x.share(), 50);
        Kit.due("3 weight is the plain one", x.library(0, 5), 2);
        Kit.due("3 does not keep", x.library(0, 1), 0);
        Kit.due("3 offers nothing", x.offer(0, 0), -1);
        Kit.due("3 prefers nothing", x.library(0, 4), 0);
        x.unload(0);
        Kit.load(x, "link;library a 2;library b 2;");
        Kit.due("3 the first one is the oldest", x.library(0, 2), 0);
        Kit.due("3 the second one is younger", x.library(1, 2), 1);
    }

    private static void promise3Grammar() {
        LinkElection x = Kit.made("  link  ;  name  x ; name y;library a5keeps;library b 0000006 ; offer a x 00009999;"
            + "offer b x to y;offer b y to y;prefer a b;prefer b a;share 000100;weight trust+rank*( 2 );  ");
        Kit.due("3 libraries", x.libraries(), 2);
        Kit.due("3 names", x.names(), 2);
        Kit.due("3 share", x.share(), 100);
        Kit.due("3 a word, a number and a word side by side", x.library(0, 1), 1);
        Kit.due("3 trust", x.library(0, 0), 5);
        Kit.due("3 leading zeros", x.library(1, 0), 6);
        Kit.due("3 a value", x.offer(0, 0), 9999);
        Kit.due("3 a forward", x.offer(1, 0), -3);
        Kit.due("3 a forward to the same name", x.offer(1, 1), -3);
        Kit.due("3 no offer", x.offer(0, 1), -1);
        Kit.due("3 preferences", x.library(0, 4), 1);
        Kit.due("3 weight", x.library(1, 5), 8);
        x = Kit.made("link;name name;name library;library keeps 1;library to 2 keeps;offer to name to library;"
            + "offer keeps library 3;prefer keeps to;share0;weight3;");
        Kit.due("3 words of the grammar are words", x.offer(1, 0), -3);
        Kit.due("3 a number behind share at once", x.share(), 0);
        Kit.due("3 a number behind weight at once", x.library(0, 5), 3);
        x = Kit.made("link;name a;library a 1;offer a a 1;");
        Kit.due("3 a name and a library with one word", x.offer(0, 0), 1);
        Kit.due("3 link alone", Kit.load(x, "link;"), 0);
        x = Kit.made("link;name abcdefgh;name abcdefg;name abcdefgi;library a 1;offer a abcdefgi 7;");
        Kit.due("3 words of 8 letters differ", x.offer(0, 2), 7);
    }

    private static void promise3Limits() {
        String names = "link;name a;name b;name c;name d;name e;name f;name g;name h;name i;name j;name k;name l;";
        String libraries = "library a 1;library b 1;library c 1;library d 1;library e 1;library f 1;library g 1;"
            + "library h 1;";
        LinkElection x = Kit.made(names + libraries + "offer h l 9;prefer h a;prefer h b;prefer h c;prefer h d;"
            + "prefer h e;prefer h f;prefer h g;");
        Kit.due("3 twelve names", x.names(), 12);
        Kit.due("3 eight libraries", x.libraries(), 8);
        Kit.due("3 the last one's offer", x.offer(7, 11), 9);
        Kit.due("3 seven preferences", x.library(7, 4), 7);
        fails(names + "name m;", -6, names.length());
        fails(names + "name a;", -6, names.length());
        fails(names + libraries + "library i 1;", -6, names.length() + libraries.length());
        fails(names + libraries + " library a 1000;", -6, names.length() + libraries.length() + 1);
        fails(names + libraries + "name", -6, names.length() + libraries.length());
        StringBuilder filled = new StringBuilder("link;");
        while (filled.length() < 800) {
            filled.append(' ');
        }
        Kit.due("3 a text of 800 bytes", Kit.load(x, filled.toString()), 0);
        fullUntil(filled, "name abc", 800);
        fullUntil(filled, "share 50", 800);
        fullUntil(filled, "share 50 ", 800);
        fullUntil(filled, "share 50 5", 799);
        endsBeforeOldBytes();
    }

    /** A text of 800 bytes that ends too early, or wrongly, with these bytes. */
    private static void fullUntil(StringBuilder filled, String end, int offset) {
        fails(filled.substring(0, 800 - end.length()) + end, -2, offset);
    }

    /** What stood behind the length in an earlier text must not be read. */
    private static void endsBeforeOldBytes() {
        LinkElection x = Kit.made("link;name abc;");
        Kit.due("3 a word ends at the length", Kit.load(x, "link;name abcdefghi"), -2);
        Kit.due("3 its offset", x.errorOffset(), 10);
        Kit.due("3 a word of 8 letters ends at the length", Kit.load(x, "link;name abcdefgh"), -2);
        Kit.due("3 the end", x.errorOffset(), 18);
        Kit.due("3 a number", Kit.load(x, "link;share 1000"), -3);
        Kit.due("3 a number ends at the length", Kit.load(x, "link;share 100"), -2);
        Kit.due("3 the end again", x.errorOffset(), 14);
    }

    private static void promise3SyntaxErrors() {
        fails("", -2, 0);
        fails("   ", -2, 3);
        fails("link", -2, 4);
        fails("link ", -2, 5);
        fails("name", -2, 0);
        fails(";", -2, 0);
        fails("links;", -2, 0);
        fails("Link;", -2, 0);
        fails("link\n;", -2, 4);
        fails("link,", -2, 4);
        fails("link;;", -2, 5);
        fails("link;5", -2, 5);
        fails("link;foo;", -2, 5);
        fails("link;\tname x;", -2, 5);
        fails("link;name x", -2, 11);
        fails("link;name x y;", -2, 12);
        fails("link;name X;", -2, 10);
        fails("link;name x\u00e1;", -2, 11);
        fails("link;name abcdefghi;", -2, 10);
        fails("link;abcdefghijkl;", -2, 5);
        fails("link;library a;", -2, 14);
        fails("link;library 5;", -2, 13);
        fails("link;library a 5 keep;", -2, 17);
        fails("link;library a 5 keeps keeps;", -2, 23);
        fails("link;library a -5;", -2, 15);
        fails(HEAD + "offer a;", -2, HEAD.length() + 7);
        fails(HEAD + "offer 5;", -2, HEAD.length() + 6);
        fails(HEAD + "offer a x;", -2, HEAD.length() + 9);
        fails(HEAD + "offer a x y;", -2, HEAD.length() + 10);
        fails(HEAD + "offer a x to 5;", -2, HEAD.length() + 13);
        fails(HEAD + "offer a x to;", -2, HEAD.length() + 12);
        fails(HEAD + "offer a x 5 5;", -2, HEAD.length() + 12);
        fails(HEAD + "prefer a;", -2, HEAD.length() + 8);
        fails(HEAD + "prefer 1 b;", -2, HEAD.length() + 7);
        fails(HEAD + "prefer a b a;", -2, HEAD.length() + 11);
        fails("link;share;", -2, 10);
        fails("link;share x;", -2, 11);
        fails("link;share 1; share 1;", -2, 14);
        fails("link;weight 1;weight 1;", -2, 14);
        fails("link;weight;", -2, 11);
        fails("link;weight x;", -2, 12);
        fails("link;weight 1+;", -2, 14);
        fails("link;weight +1;", -2, 12);
        fails("link;weight 1 1;", -2, 14);
        fails("link;weight (1;", -2, 14);
        fails("link;weight 1);", -2, 13);
        fails("link;weight ();", -2, 13);
        fails("link;weight 2(1);", -2, 13);
        fails("link;weight 1*/2;", -2, 14);
        fails("link;weight 1%2;", -2, 13);
        fails("link;weight friendss;", -2, 12);
        fails("link;weight trust", -2, 17);
    }

    private static void promise3OtherErrors() {
        fails("link;library a 1000;", -3, 15);
        fails("link;library a 99999999999999999999999;", -3, 15);
        fails("link;library a 4294967296;", -3, 15);
        fails("link;share 101;", -3, 11);
        fails(HEAD + "offer a x 10000;", -3, HEAD.length() + 10);
        fails("link;weight 10000;", -3, 12);
        fails("link;weight (1+010000);", -3, 15);
        fails(HEAD + "offer c x 1;", -4, HEAD.length() + 6);
        fails(HEAD + "offer x x 1;", -4, HEAD.length() + 6);
        fails(HEAD + "offer a z 1;", -4, HEAD.length() + 8);
        fails(HEAD + "offer a a 1;", -4, HEAD.length() + 8);
        fails(HEAD + "offer a x to z;", -4, HEAD.length() + 13);
        fails(HEAD + "prefer c a;", -4, HEAD.length() + 7);
        fails(HEAD + "prefer a c;library c 1;", -4, HEAD.length() + 9);
        fails(HEAD + "name y;", -5, HEAD.length() + 5);
        fails(HEAD + "library  b 1;", -5, HEAD.length() + 9);
        fails(HEAD + "offer a x 1;offer a x to y;", -5, HEAD.length() + 20);
        fails(HEAD + "offer a x to x;offer a x 1;", -5, HEAD.length() + 23);
        fails(HEAD + "prefer b b;", -5, HEAD.length() + 9);
        fails(HEAD + "prefer b a;prefer b a;", -5, HEAD.length() + 20);
        fails("link;weight (((((1)))));", -7, 16);
        fails("link;weight 1+(2*((trust-( (1))))));", -7, 27);
        fails("link;weight ((((1(", -2, 17);
        Kit.made("link;weight ((((1))))+((((2))))*(3);");
    }

    private static void promise3Precedence() {
        fails("link;library a 1000;;", -3, 15);
        fails(HEAD + "offer c q 10000", -4, HEAD.length() + 6);
        fails(HEAD + "offer a x 1;offer a x 10000", -5, HEAD.length() + 20);
        fails(HEAD + "offer a abcdefghi 1;", -2, HEAD.length() + 8);
        fails(HEAD + "name y 5", -5, HEAD.length() + 5);
        fails("link;weight (((((x", -7, 16);
        fails("link;share 1;share 101;", -2, 13);
        fails("link;library a 1;library a 1000;", -5, 25);
    }

    private static void promise3Weights() {
        weighs("trust", 17, 4, 30);
        weighs("rank", 0, 1, 2);
        weighs("offers", 2, 0, 1);
        weighs("friends", 0, 2, 1);
        weighs("7-2-1", 4, 4, 4);
        weighs("7-(2-1)", 6, 6, 6);
        weighs("2+3*4", 14, 14, 14);
        weighs("(2+3)*4", 20, 20, 20);
        weighs("100/7/2", 7, 7, 7);
        weighs("100/(7/2)", 33, 33, 33);
        weighs("100/(2-rank)", 50, 100, 0);
        weighs("5-trust", 0, 1, 0);
        weighs("(0-7)/2+10", 7, 7, 7);
        weighs("9000+trust*100", 9999, 9400, 9999);
        weighs("1000*9999/1000", 1000, 1000, 1000);
        weighs("(0-1000)*9999/1000+1001", 1, 1, 1);
        weighs("9999*9999/200+1", 5001, 5001, 5001);
        weighs("9999*9999*9999/1000-1", 999, 999, 999);
        weighs("1000*1000+1000-1000*999", 1000, 1000, 1000);
        weighs("0-1000*1000-1000+1000*1001", 0, 0, 0);
        weighs("0-1000*1000-1000+1000*999+1007", 7, 7, 7);
        weighs("1+2*(1+2*(1+2*(1+2*(1+2*3))))", 127, 127, 127);
        weighs("trust*(rank+1)/1", 17, 8, 90);
    }

    /** Whether the expression gives these weights; c is preferred by a, b by a and c. */
    private static void weighs(String expression, int first, int second, int third) {
        LinkElection x = Kit.made("link;name x;name y;library a 17;library b 4;library c 30;offer a x 1;offer a y 1;"
            + "offer c x to y;prefer a b;prefer a c;prefer c b;weight " + expression + ";");
        Kit.due("3 weight of the first by " + expression, x.library(0, 5), first);
        Kit.due("3 weight of the second by " + expression, x.library(1, 5), second);
        Kit.due("3 weight of the third by " + expression, x.library(2, 5), third);
    }

    private static void promise4() {
        LinkElection x = new LinkElection();
        Kit.due("4 before any load", x.errorOffset(), -1);
        Kit.thrown(() -> x.load(1));
        Kit.due("4 after a load that threw", x.errorOffset(), -1);
        Kit.load(x, "link;name 5;");
        Kit.due("4 after an error", x.errorOffset(), 10);
        Kit.thrown(() -> x.load(1));
        Kit.due("4 a load that threw leaves it", x.errorOffset(), 10);
        x.setShare(5);
        x.undo();
        Kit.due("4 undo leaves it", x.errorOffset(), 10);
        Kit.load(x, "link;");
        Kit.due("4 after a success", x.errorOffset(), -1);
        Kit.load(x, "link;x");
        x.undo();
        Kit.due("4 undo of a load leaves it", x.errorOffset(), 5);
    }

    private static void fails(String text, int code, int offset) {
        LinkElection x = Kit.made("link;share 77;");
        Kit.due("3 load of '" + text + "'", Kit.load(x, text), code);
        Kit.due("4 offset in '" + text + "'", x.errorOffset(), offset);
        Kit.due("3 data after '" + text + "'", x.checksum(), 77);
    }
}
