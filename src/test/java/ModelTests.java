import java.util.function.LongSupplier;

/** Long runs of calls, drawn by fixed numbers, on the class and on the model: all answers must be equal. */
public final class ModelTests {
    private static final int RUNS = 150;
    private static final int CALLS = 512;

    private long state;
    private final LinkElection x = new LinkElection();
    private final Model m = new Model();
    private int run;
    private int callNumber = 0;

    public static void main(String[] args) {
        int runs = args.length > 0 ? Integer.parseInt(args[0]) : RUNS;
        int first = args.length > 1 ? Integer.parseInt(args[1]) : 0;
        for (int run = first; run < first + runs; run++) {
            ModelTests test = new ModelTests();
            test.run = run;
            test.state = run * 7919L + 12345;
            test.oneRun();
        }
        Kit.end("ModelTests");
    }

    private int draw(int bound) {
        state = state * 6364136223846793005L + 1442695040888963407L;
        return (int) ((state >>> 33) % bound);
    }

    private void oneRun() {
        loadText();
        while (callNumber < CALLS - 60) {
            int kind = draw(40);
            if (kind == 0) {
                loadText();
            } else if (kind < 16) {
                oneChange();
            } else {
                oneQuery();
            }
        }
    }

    private void same(String call, LongSupplier got, LongSupplier want) {
        callNumber++;
        Kit.dueText("run " + run + " call " + callNumber + " " + call, answer(got), answer(want));
    }

    private static String answer(LongSupplier call) {
        try {
            return "" + call.getAsLong();
        } catch (IndexOutOfBoundsException | IllegalArgumentException | IllegalStateException e) {
            String name = e.getClass().getSimpleName();
            return "throws." + name;
        }
    }

    private int aLibrary() {
        return draw(25) == 0 ? draw(12) - 2 : draw(Math.max(1, m.now.libs.size()));
    }

    private int aName() {
        return draw(25) == 0 ? draw(16) - 2 : draw(Math.max(1, m.now.names.size()));
    }

    private void oneChange() {
        int l = aLibrary();
        int n = aName();
        int k = aName();
        int v = draw(3) == 0 ? draw(1200) - 50 : draw(6);
        switch (draw(10)) {
            case 0 -> same("unload " + l, () -> x.unload(l), () -> m.unload(l));
            case 1 -> same("reload " + l, () -> x.reload(l), () -> m.reload(l));
            case 2 -> same("offerValue", () -> x.offerValue(l, n, v * 9), () -> m.offerValue(l, n, v * 9));
            case 3 -> same("offerForward", () -> x.offerForward(l, n, k), () -> m.offerForward(l, n, k));
            case 4 -> same("withdraw", () -> x.withdraw(l, n), () -> m.withdraw(l, n));
            case 5 -> same("setTrust", () -> x.setTrust(l, v), () -> m.setTrust(l, v));
            case 6 -> same("setKeeps", () -> x.setKeeps(l, v % 2 == 0), () -> m.setKeeps(l, v % 2 == 0));
            case 7 -> same("setShare", () -> x.setShare(v % 110), () -> m.setShare(v % 110));
            case 8 -> same("undo", x::undo, m::undo);
            default -> same("reload " + l, () -> x.reload(l), () -> m.reload(l));
        }
    }

    private void oneQuery() {
        int l = aLibrary();
        int n = aName();
        int what = draw(7) - (draw(20) == 0 ? 1 : 0);
        switch (draw(17)) {
            case 0 -> same("libraries", x::libraries, () -> m.now.libs.size());
            case 1 -> same("names", x::names, () -> m.now.names.size());
            case 2 -> same("share", x::share, () -> m.now.share);
            case 3, 4 -> same("library " + l + " " + what, () -> x.library(l, what), () -> m.library(l, what));
            case 5 -> same("offer", () -> x.offer(l, n), () -> m.offer(l, n));
            case 6 -> same("candidates", () -> x.candidates(n), () -> m.candidates(n));
            case 7 -> same("vote", () -> x.vote(l, n), () -> m.vote(l, n));
            case 8 -> same("support", () -> x.support(l, n), () -> m.support(l, n));
            case 9 -> same("winner", () -> x.winner(n), () -> m.winner(n));
            case 10 -> same("margin", () -> x.margin(n), () -> m.margin(n));
            case 11 -> same("binding", () -> x.binding(l, n), () -> m.binding(l, n));
            case 12 -> same("minority", () -> x.minority(n), () -> m.minority(n));
            case 13 -> same("call", () -> x.call(l, n), () -> m.route(l, n)[0]);
            case 14 -> same("steps", () -> x.steps(l, n), () -> m.route(l, n)[1]);
            case 15 -> same("users", () -> x.users(l, n), () -> m.users(l, n));
            default -> same("checksum", x::checksum, m::checksum);
        }
    }

    private void loadText() {
        String text = draw(4) == 0 ? spoilt(aText()) : aText();
        if (text.length() > 800) {
            text = text.substring(0, 800);
        }
        int length = text.length();
        while (text.length() % 20 != 0) {
            text += " ;0(aA\n\u00ff".charAt(draw(8));
        }
        for (int at = 0; at < text.length(); at += 20) {
            int[] words = new int[5];
            for (int i = 0; i < 20; i++) {
                words[i / 4] = words[i / 4] << 8 | text.charAt(at + i);
            }
            same("append", () -> x.append(words[0], words[1], words[2], words[3], words[4]), () -> m.append(words));
        }
        int read = draw(30) == 0 ? draw(900) - 50 : length;
        String told = text;
        same("load " + read + " of '" + told + "'", () -> x.load(read), () -> m.load(read));
        same("errorOffset after '" + told + "'", x::errorOffset, () -> m.errorOffset);
    }

    private String spoilt(String text) {
        StringBuilder changed = new StringBuilder(text);
        String bytes = "  ;;()+-*/059azoA\n\u00e1";
        for (int i = draw(2); i >= 0; i--) {
            int place = draw(changed.length());
            switch (draw(4)) {
                case 0 -> changed.deleteCharAt(place);
                case 1 -> changed.insert(place, bytes.charAt(draw(bytes.length())));
                case 2 -> changed.setCharAt(place, bytes.charAt(draw(bytes.length())));
                default -> {
                    int from = draw(changed.length());
                    changed.insert(place, changed.substring(from, Math.min(changed.length(), from + draw(30))));
                }
            }
        }
        return changed.toString();
    }

    private String gap() {
        return draw(8) == 0 ? "  " : " ";
    }

    private String aText() {
        int libs = draw(9);
        int names = draw(13);
        String[] libWords = {"a", "b", "to", "keeps", "library", "longword", "g", "h"};
        String[] nameWords = {"a", "x", "to", "name", "offer", "longname", "k", "l", "m", "n", "o", "p"};
        StringBuilder text = new StringBuilder("link;");
        int statements = 0;
        for (int i = 0; i < names; i++) {
            text.append("name").append(gap()).append(nameWords[i]).append(';');
        }
        for (int i = 0; i < libs; i++) {
            text.append("library ").append(libWords[i]).append(gap()).append(draw(3) == 0 ? draw(1000) : draw(4));
            text.append(draw(2) == 0 ? " keeps;" : ";");
        }
        if (draw(2) == 0) {
            text.append("weight ").append(anExpression(0)).append(';');
        }
        if (draw(2) == 0) {
            text.append("share ").append(draw(draw(3) == 0 ? 103 : 35)).append(';');
        }
        while (libs > 0 && statements < 25) {
            statements++;
            String lib = libWords[draw(libs)];
            if (draw(3) == 0) {
                String other = libWords[draw(libs)];
                if (draw(20) == 0 || !text.toString().contains("prefer " + lib + " " + other) && !lib.equals(other)) {
                    text.append("prefer ").append(lib).append(' ').append(other).append(';');
                }
            } else if (names > 0) {
                String name = nameWords[draw(names)];
                if (draw(40) == 0 || !text.toString().contains("offer " + lib + " " + name + " ")) {
                    text.append("offer ").append(lib).append(' ').append(name).append(' ');
                    text.append(draw(2) == 0 ? "" + draw(10000) : "to " + nameWords[draw(names)]).append(';');
                }
            }
        }
        return text.toString();
    }

    private String anExpression(int depth) {
        StringBuilder text = new StringBuilder();
        for (int i = draw(4); i >= 0; i--) {
            text.append(aFactor(depth));
            if (i > 0) {
                text.append("+-*/".charAt(draw(4)));
            }
        }
        return text.toString();
    }

    private String aFactor(int depth) {
        if (depth < 4 && draw(3) == 0 || draw(300) == 0) {
            return "(" + anExpression(depth + 1) + ")";
        }
        String[] words = {"trust", "rank", "offers", "friends"};
        return draw(2) == 0 ? words[draw(4)] : "" + draw(draw(4) == 0 ? 10002 : 5);
    }
}
