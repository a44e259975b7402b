import java.util.ArrayDeque;
import java.util.ArrayList;
import java.util.Deque;
import java.util.HashSet;
import java.util.List;
import java.util.Set;

/**
 * A slow second writing of the document, for comparisons: nothing is kept but the data, every answer is
 * worked out from the definitions, and the weight is worked out from its text each time.
 */
final class Model {
    static final class Lib {
        String word;
        int trust;
        boolean keeps;
        List<String> offers = new ArrayList<>();
        List<Integer> prefers = new ArrayList<>();

        Lib copy() {
            Lib made = new Lib();
            made.word = word;
            made.trust = trust;
            made.keeps = keeps;
            made.offers = new ArrayList<>(offers);
            made.prefers = new ArrayList<>(prefers);
            return made;
        }
    }

    /** The data; offers are texts: empty, "5", or "to 3". */
    static final class State {
        List<Lib> libs = new ArrayList<>();
        List<String> names = new ArrayList<>();
        List<Integer> loaded = new ArrayList<>();
        int share = 50;
        List<String> weight = List.of("trust");

        State copy() {
            State made = new State();
            for (Lib lib : libs) {
                made.libs.add(lib.copy());
            }
            made.names.addAll(names);
            made.loaded.addAll(loaded);
            made.share = share;
            made.weight = weight;
            return made;
        }
    }

    static final class TextError extends RuntimeException {
        final int code;
        final int offset;

        TextError(int code, int offset) {
            this.code = code;
            this.offset = offset;
        }
    }

    State now = new State();
    Deque<State> past = new ArrayDeque<>();
    String buffer = "";
    int errorOffset = -1;

    // ---- the text

    private List<String> tokens;
    private List<Integer> places;
    private int at;

    int append(int... words) {
        if (buffer.length() + 20 > 800) {
            return -1;
        }
        StringBuilder longer = new StringBuilder(buffer);
        for (int word : words) {
            longer.append((char) (word >>> 24)).append((char) (word >>> 16 & 255));
            longer.append((char) (word >>> 8 & 255)).append((char) (word & 255));
        }
        buffer = longer.toString();
        return buffer.length();
    }

    int load(int length) {
        if (length < 0 || length > buffer.length()) {
            throw new IllegalArgumentException();
        }
        String text = buffer.substring(0, length);
        buffer = "";
        try {
            State read = parse(text);
            errorOffset = -1;
            change();
            now = read;
            return now.libs.size();
        } catch (TextError e) {
            errorOffset = e.offset;
            return e.code;
        }
    }

    private void cut(String text) {
        tokens = new ArrayList<>();
        places = new ArrayList<>();
        java.util.regex.Matcher m = java.util.regex.Pattern.compile("[a-z]+|[0-9]+|[^ ]", java.util.regex.Pattern.DOTALL)
            .matcher(text);
        while (m.find()) {
            tokens.add(m.group());
            places.add(m.start());
        }
        tokens.add("");
        places.add(text.length());
        at = 0;
    }

    private String peek() {
        return tokens.get(at);
    }

    private RuntimeException bad(int code) {
        return new TextError(code, places.get(at));
    }

    private void expect(String token) {
        if (!peek().equals(token)) {
            throw bad(-2);
        }
        at++;
    }

    private String word() {
        if (!peek().matches("[a-z]{1,8}")) {
            throw bad(-2);
        }
        return peek();
    }

    private int number(int most) {
        if (!peek().matches("[0-9]+")) {
            throw bad(-2);
        }
        java.math.BigInteger value = new java.math.BigInteger(peek());
        if (value.compareTo(java.math.BigInteger.valueOf(most)) > 0) {
            throw bad(-3);
        }
        at++;
        return value.intValue();
    }

    private int known(List<String> words) {
        int index = words.indexOf(word());
        if (index < 0) {
            throw bad(-4);
        }
        return index;
    }

    private List<String> libWords(State s) {
        List<String> words = new ArrayList<>();
        for (Lib lib : s.libs) {
            words.add(lib.word);
        }
        return words;
    }

    private State parse(String text) {
        cut(text);
        State s = new State();
        Set<String> once = new HashSet<>();
        expect("link");
        expect(";");
        while (!peek().isEmpty()) {
            String head = peek();
            if ((head.equals("share") || head.equals("weight")) && !once.add(head)) {
                throw bad(-2);
            }
            if (head.equals("name") && s.names.size() == 12 || head.equals("library") && s.libs.size() == 8) {
                throw bad(-6);
            }
            if (!Set.of("name", "library", "offer", "prefer", "share", "weight").contains(head)) {
                throw bad(-2);
            }
            at++;
            statement(s, head);
            expect(";");
        }
        for (int i = 0; i < s.libs.size(); i++) {
            s.loaded.add(i);
            while (s.libs.get(i).offers.size() < s.names.size()) {
                s.libs.get(i).offers.add("");
            }
        }
        return s;
    }

    private void statement(State s, String head) {
        if (head.equals("name")) {
            if (s.names.contains(word())) {
                throw bad(-5);
            }
            s.names.add(tokens.get(at++));
        } else if (head.equals("library")) {
            if (libWords(s).contains(word())) {
                throw bad(-5);
            }
            Lib lib = new Lib();
            lib.word = tokens.get(at++);
            lib.trust = number(999);
            if (peek().equals("keeps")) {
                lib.keeps = true;
                at++;
            }
            s.libs.add(lib);
        } else if (head.equals("offer")) {
            Lib lib = s.libs.get(known(libWords(s)));
            at++;
            int name = known(s.names);
            while (lib.offers.size() < s.names.size()) {
                lib.offers.add("");
            }
            if (!lib.offers.get(name).isEmpty()) {
                throw bad(-5);
            }
            at++;
            if (peek().equals("to")) {
                at++;
                lib.offers.set(name, "to " + known(s.names));
                at++;
            } else {
                lib.offers.set(name, "" + number(9999));
            }
        } else if (head.equals("prefer")) {
            int lib = known(libWords(s));
            at++;
            int other = known(libWords(s));
            if (other == lib || s.libs.get(lib).prefers.contains(other)) {
                throw bad(-5);
            }
            at++;
            s.libs.get(lib).prefers.add(other);
        } else if (head.equals("share")) {
            s.share = number(100);
        } else {
            int first = at;
            sum(0);
            s.weight = new ArrayList<>(tokens.subList(first, at));
        }
    }

    private void sum(int depth) {
        factor(depth);
        while (!peek().isEmpty() && "+-*/".contains(peek())) {
            at++;
            factor(depth);
        }
    }

    private void factor(int depth) {
        if (peek().equals("(")) {
            if (depth == 4) {
                throw bad(-7);
            }
            at++;
            sum(depth + 1);
            expect(")");
        } else if (peek().matches("[0-9]+")) {
            number(9999);
        } else if (Set.of("trust", "rank", "offers", "friends").contains(peek())) {
            at++;
        } else {
            throw bad(-2);
        }
    }

    // ---- the weight: the text is split at its last operation of the lowest binding

    private long value(List<String> text, int lib) {
        for (String signs : List.of("+-", "*/")) {
            int depth = 0;
            for (int i = text.size() - 1; i >= 0; i--) {
                String token = text.get(i);
                depth += token.equals(")") ? 1 : token.equals("(") ? -1 : 0;
                if (depth == 0 && signs.contains(token)) {
                    long left = value(text.subList(0, i), lib);
                    long right = value(text.subList(i + 1, text.size()), lib);
                    long result = token.equals("+") ? left + right : token.equals("-") ? left - right
                        : token.equals("*") ? left * right : right == 0 ? 0 : left / right;
                    return result > 1000000 ? 1000000 : result < -1000000 ? -1000000 : result;
                }
            }
        }
        String token = text.get(0);
        if (token.equals("(")) {
            return value(text.subList(1, text.size() - 1), lib);
        }
        if (token.equals("trust")) {
            return now.libs.get(lib).trust;
        }
        if (token.equals("rank")) {
            return now.loaded.indexOf(lib);
        }
        if (token.equals("offers")) {
            return library(lib, 3);
        }
        if (token.equals("friends")) {
            return now.loaded.stream().filter(i -> now.libs.get(i).prefers.contains(lib)).count();
        }
        return Long.parseLong(token);
    }

    private int weight(int lib) {
        long value = value(now.weight, lib);
        return value < 0 ? 0 : value > 9999 ? 9999 : (int) value;
    }

    // ---- the answers

    private void lib(int index) {
        if (index < 0 || index >= now.libs.size()) {
            throw new IndexOutOfBoundsException();
        }
    }

    private void name(int index) {
        if (index < 0 || index >= now.names.size()) {
            throw new IndexOutOfBoundsException();
        }
    }

    int library(int library, int what) {
        lib(library);
        Lib told = now.libs.get(library);
        boolean loaded = now.loaded.contains(library);
        if (what < 0 || what > 5) {
            throw new IllegalArgumentException();
        }
        return new int[] {told.trust, told.keeps ? 1 : 0, now.loaded.indexOf(library),
            (int) told.offers.stream().filter(o -> !o.isEmpty()).count(), told.prefers.size(),
            loaded && what == 5 ? weight(library) : -1}[what];
    }

    int offer(int library, int name) {
        lib(library);
        name(name);
        String told = now.libs.get(library).offers.get(name);
        return told.isEmpty() ? -1 : told.startsWith("to ") ? -2 - Integer.parseInt(told.substring(3))
            : Integer.parseInt(told);
    }

    private List<Integer> candidateList(int name) {
        List<Integer> found = new ArrayList<>();
        for (int library : now.loaded) {
            if (!now.libs.get(library).offers.get(name).isEmpty()) {
                found.add(library);
            }
        }
        return found;
    }

    int candidates(int name) {
        name(name);
        return candidateList(name).size();
    }

    int vote(int library, int name) {
        lib(library);
        name(name);
        List<Integer> all = candidateList(name);
        if (!now.loaded.contains(library)) {
            return -1;
        }
        if (all.contains(library)) {
            return library;
        }
        for (int preferred : now.libs.get(library).prefers) {
            if (all.contains(preferred)) {
                return preferred;
            }
        }
        return -1;
    }

    int support(int candidate, int name) {
        lib(candidate);
        name(name);
        if (!candidateList(name).contains(candidate)) {
            return -1;
        }
        return now.loaded.stream().filter(i -> vote(i, name) == candidate).mapToInt(this::weight).sum();
    }

    int winner(int name) {
        name(name);
        int best = -1;
        for (int candidate : candidateList(name)) {
            if (best < 0 || support(candidate, name) > support(best, name)) {
                best = candidate;
            }
        }
        return best;
    }

    int margin(int name) {
        name(name);
        int best = winner(name);
        if (best < 0) {
            return -1;
        }
        int second = candidateList(name).stream().filter(i -> i != best).mapToInt(i -> support(i, name)).max().orElse(0);
        return support(best, name) - second;
    }

    int binding(int library, int name) {
        lib(library);
        name(name);
        if (!now.loaded.contains(library)) {
            return -1;
        }
        int choice = vote(library, name);
        if (now.libs.get(library).keeps && choice >= 0) {
            int total = candidateList(name).stream().mapToInt(i -> support(i, name)).sum();
            if (100 * support(choice, name) >= now.share * total) {
                return choice;
            }
        }
        return winner(name);
    }

    int minority(int name) {
        name(name);
        int best = winner(name);
        return (int) now.loaded.stream().filter(i -> binding(i, name) != best).count();
    }

    int[] route(int library, int name) {
        lib(library);
        name(name);
        Set<String> been = new HashSet<>();
        int steps = 0;
        while (been.add(library + " " + name)) {
            int bound = binding(library, name);
            if (bound < 0) {
                return new int[] {-1, steps};
            }
            steps++;
            int told = offer(bound, name);
            if (told >= 0) {
                return new int[] {told, steps};
            }
            library = bound;
            name = -2 - told;
        }
        return new int[] {-2, steps};
    }

    int users(int candidate, int name) {
        lib(candidate);
        name(name);
        return (int) now.loaded.stream().filter(i -> binding(i, name) == candidate).count();
    }

    // ---- the changes

    private void change() {
        past.addLast(now.copy());
        if (past.size() > 8) {
            past.removeFirst();
        }
    }

    private List<List<Integer>> bindings() {
        List<List<Integer>> all = new ArrayList<>();
        for (int i = 0; i < now.libs.size(); i++) {
            all.add(new ArrayList<>());
            for (int k = 0; k < now.names.size(); k++) {
                all.get(i).add(binding(i, k));
            }
        }
        return all;
    }

    private int changed(List<List<Integer>> before, List<Integer> libraries) {
        List<List<Integer>> after = bindings();
        int count = 0;
        for (int i : libraries) {
            for (int k = 0; k < now.names.size(); k++) {
                count += after.get(i).get(k).equals(before.get(i).get(k)) ? 0 : 1;
            }
        }
        return count;
    }

    int unload(int library) {
        lib(library);
        if (!now.loaded.contains(library)) {
            throw new IllegalStateException();
        }
        List<List<Integer>> before = bindings();
        change();
        now.loaded.remove(Integer.valueOf(library));
        return changed(before, now.loaded);
    }

    int reload(int library) {
        lib(library);
        if (now.loaded.contains(library)) {
            throw new IllegalStateException();
        }
        List<List<Integer>> before = bindings();
        List<Integer> others = new ArrayList<>(now.loaded);
        change();
        now.loaded.add(library);
        return changed(before, others);
    }

    int offerValue(int library, int name, int value) {
        lib(library);
        name(name);
        if (value < 0 || value > 9999) {
            throw new IllegalArgumentException();
        }
        change();
        now.libs.get(library).offers.set(name, "" + value);
        return winner(name);
    }

    int offerForward(int library, int name, int forward) {
        lib(library);
        name(name);
        name(forward);
        change();
        now.libs.get(library).offers.set(name, "to " + forward);
        return winner(name);
    }

    int withdraw(int library, int name) {
        lib(library);
        name(name);
        if (now.libs.get(library).offers.get(name).isEmpty()) {
            throw new IllegalStateException();
        }
        change();
        now.libs.get(library).offers.set(name, "");
        return winner(name);
    }

    int setTrust(int library, int trust) {
        lib(library);
        if (trust < 0 || trust > 999) {
            throw new IllegalArgumentException();
        }
        change();
        int before = now.libs.get(library).trust;
        now.libs.get(library).trust = trust;
        return before;
    }

    int setKeeps(int library, boolean keeps) {
        lib(library);
        List<List<Integer>> before = bindings();
        change();
        now.libs.get(library).keeps = keeps;
        return changed(before, List.of(library));
    }

    int setShare(int share) {
        if (share < 0 || share > 100) {
            throw new IllegalArgumentException();
        }
        List<List<Integer>> before = bindings();
        change();
        now.share = share;
        return changed(before, now.loaded);
    }

    int undo() {
        if (past.isEmpty()) {
            return -1;
        }
        now = past.removeLast();
        return past.size();
    }

    long checksum() {
        List<Long> row = new ArrayList<>();
        row.add((long) now.share);
        for (int i = 0; i < now.libs.size(); i++) {
            for (int what = 0; what < 6; what++) {
                row.add((long) library(i, what));
            }
            for (int k = 0; k < now.names.size(); k++) {
                row.add((long) offer(i, k));
                row.add((long) binding(i, k));
                row.add((long) route(i, k)[0]);
            }
        }
        long sum = 0;
        for (long n : row) {
            sum = 31 * sum + n;
        }
        return sum;
    }
}
