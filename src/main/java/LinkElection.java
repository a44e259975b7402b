import java.util.Arrays;

/**
 * A linker by election: libraries offer definitions of names and vote for the library whose
 * definition shall be bound. The data are told by a text and altered by changes; what follows
 * from them (votes, winners, bindings) is counted anew behind each change and only read between.
 */
public final class LinkElection {
    public static final int SYNTAX_ERROR = -2;
    public static final int OUT_OF_RANGE = -3;
    public static final int UNKNOWN = -4;
    public static final int DUPLICATE = -5;
    public static final int TOO_MANY = -6;
    public static final int TOO_DEEP = -7;

    private static final int MAX_TEXT = 800;
    private static final int MAX_LIBRARIES = 8;
    private static final int MAX_NAMES = 12;
    private static final int MAX_CELLS = MAX_LIBRARIES * MAX_NAMES;
    private static final int MAX_UNDO = 8;
    private static final int APPENDED_BYTES = 20;

    private static final int MAX_TRUST = 999;
    private static final int MAX_VALUE = 9999;
    private static final int MAX_SHARE = 100;
    private static final int DEFAULT_SHARE = 50;

    /** No library, no rank, no offer, no error. */
    private static final int NONE = -1;
    /** An offer that forwards to the name k is held as FORWARD - k. */
    private static final int FORWARD = -2;

    private static final int LOST = -1;
    private static final int LOOP = -2;

    private final byte[] buffer = new byte[MAX_TEXT];
    private int buffered = 0;
    private int errorPlace = NONE;

    private final SetupReader reader = new SetupReader();
    private final Data data = new Data();
    private final Election election = new Election();
    private final Route route = new Route();
    private final History history = new History();
    private final int[] bindingsBefore = new int[MAX_CELLS];

    public LinkElection() {
    }

    public int append(int w0, int w1, int w2, int w3, int w4) {
        if (buffered + APPENDED_BYTES > MAX_TEXT) {
            return -1;
        }
        putBytes(w0);
        putBytes(w1);
        putBytes(w2);
        putBytes(w3);
        putBytes(w4);
        return buffered;
    }

    public int load(int length) throws IllegalArgumentException {
        if (length < 0 || length > buffered) {
            throw new IllegalArgumentException("length is not within the buffer");
        }
        buffered = 0;
        if (!reader.readText(buffer, length)) {
            errorPlace = reader.errorPlace;
            return reader.errorCode;
        }
        errorPlace = NONE;
        beginChange();
        data.copyFrom(reader.draft);
        election.count(data);
        return data.libraryCount;
    }

    public int errorOffset() {
        return errorPlace;
    }

    public int libraries() {
        return data.libraryCount;
    }

    public int names() {
        return data.nameCount;
    }

    public int share() {
        return data.share;
    }

    public int library(int library, int what) throws IndexOutOfBoundsException, IllegalArgumentException {
        requireLibrary(library);
        Library told = data.rows[library];
        switch (what) {
            case 0:
                return told.trust;
            case 1:
                return told.keeps ? 1 : 0;
            case 2:
                return told.rank;
            case 3:
                return told.countOffers();
            case 4:
                return told.preferenceCount;
            case 5:
                return election.weights[library];
            default:
                throw new IllegalArgumentException("what is not 0 to 5");
        }
    }

    public int offer(int library, int name) throws IndexOutOfBoundsException {
        requireLibrary(library);
        requireName(name);
        return data.rows[library].offers[name];
    }

    public int candidates(int name) throws IndexOutOfBoundsException {
        requireName(name);
        return election.candidateCounts[name];
    }

    public int vote(int library, int name) throws IndexOutOfBoundsException {
        requireLibrary(library);
        requireName(name);
        return election.votes[cellOf(library, name)];
    }

    public int support(int candidate, int name) throws IndexOutOfBoundsException {
        requireLibrary(candidate);
        requireName(name);
        return election.supports[cellOf(candidate, name)];
    }

    public int winner(int name) throws IndexOutOfBoundsException {
        requireName(name);
        return election.winners[name];
    }

    public int margin(int name) throws IndexOutOfBoundsException {
        requireName(name);
        return election.margins[name];
    }

    public int binding(int library, int name) throws IndexOutOfBoundsException {
        requireLibrary(library);
        requireName(name);
        return election.bindings[cellOf(library, name)];
    }

    public int minority(int name) throws IndexOutOfBoundsException {
        requireName(name);
        // Without a winner nobody has a binding, so nobody differs from the others.
        int winner = election.winners[name];
        int count = 0;
        for (int library = 0; library < data.libraryCount; library++) {
            if (data.rows[library].isLoaded() && election.bindings[cellOf(library, name)] != winner) {
                count++;
            }
        }
        return count;
    }

    public int call(int library, int name) throws IndexOutOfBoundsException {
        requireLibrary(library);
        requireName(name);
        route.follow(data, election, library, name);
        return route.result;
    }

    public int steps(int library, int name) throws IndexOutOfBoundsException {
        requireLibrary(library);
        requireName(name);
        route.follow(data, election, library, name);
        return route.length;
    }

    public int users(int candidate, int name) throws IndexOutOfBoundsException {
        requireLibrary(candidate);
        requireName(name);
        int count = 0;
        for (int library = 0; library < data.libraryCount; library++) {
            if (election.bindings[cellOf(library, name)] == candidate) {
                count++;
            }
        }
        return count;
    }

    public int unload(int library) throws IndexOutOfBoundsException, IllegalStateException {
        requireLibrary(library);
        if (!data.rows[library].isLoaded()) {
            throw new IllegalStateException("the library is not loaded");
        }
        beginChange();
        data.takeOut(library);
        election.count(data);
        return changedBindingsOfAll();
    }

    public int reload(int library) throws IndexOutOfBoundsException, IllegalStateException {
        requireLibrary(library);
        if (data.rows[library].isLoaded()) {
            throw new IllegalStateException("the library is loaded");
        }
        beginChange();
        data.takeIn(library);
        election.count(data);
        return changedBindingsOfAll() - changedBindings(library);
    }

    public int offerValue(int library, int name, int value) throws IndexOutOfBoundsException, IllegalArgumentException {
        requireLibrary(library);
        requireName(name);
        if (value < 0 || value > MAX_VALUE) {
            throw new IllegalArgumentException("value is not 0 to 9999");
        }
        return changeOffer(library, name, value);
    }

    public int offerForward(int library, int name, int forward) throws IndexOutOfBoundsException {
        requireLibrary(library);
        requireName(name);
        requireName(forward);
        return changeOffer(library, name, FORWARD - forward);
    }

    public int withdraw(int library, int name) throws IndexOutOfBoundsException, IllegalStateException {
        requireLibrary(library);
        requireName(name);
        if (!data.rows[library].hasOffer(name)) {
            throw new IllegalStateException("the library does not offer this name");
        }
        return changeOffer(library, name, NONE);
    }

    public int setTrust(int library, int trust) throws IndexOutOfBoundsException, IllegalArgumentException {
        requireLibrary(library);
        if (trust < 0 || trust > MAX_TRUST) {
            throw new IllegalArgumentException("trust is not 0 to 999");
        }
        beginChange();
        int previous = data.rows[library].trust;
        data.rows[library].trust = trust;
        election.count(data);
        return previous;
    }

    public int setKeeps(int library, boolean keeps) throws IndexOutOfBoundsException {
        requireLibrary(library);
        beginChange();
        data.rows[library].keeps = keeps;
        election.count(data);
        return changedBindings(library);
    }

    public int setShare(int share) throws IllegalArgumentException {
        if (share < 0 || share > MAX_SHARE) {
            throw new IllegalArgumentException("share is not 0 to 100");
        }
        beginChange();
        data.share = share;
        election.count(data);
        return changedBindingsOfAll();
    }

    public int undo() {
        if (!history.bringBack(data)) {
            return -1;
        }
        election.count(data);
        return history.size;
    }

    public long checksum() {
        long sum = share();
        for (int library = 0; library < data.libraryCount; library++) {
            for (int what = 0; what <= 5; what++) {
                sum = 31 * sum + library(library, what);
            }
            for (int name = 0; name < data.nameCount; name++) {
                sum = 31 * sum + offer(library, name);
                sum = 31 * sum + binding(library, name);
                sum = 31 * sum + call(library, name);
            }
        }
        return sum;
    }

    private void requireLibrary(int library) {
        if (library < 0 || library >= data.libraryCount) {
            throw new IndexOutOfBoundsException("there is no such library");
        }
    }

    private void requireName(int name) {
        if (name < 0 || name >= data.nameCount) {
            throw new IndexOutOfBoundsException("there is no such name");
        }
    }

    /** Where rows over libraries and names hold this pair. */
    private static int cellOf(int library, int name) {
        return library * MAX_NAMES + name;
    }

    private void putBytes(int word) {
        for (int shift = 24; shift >= 0 && buffered < MAX_TEXT; shift -= 8) {
            buffer[buffered] = (byte) (word >> shift);
            buffered++;
        }
    }

    /** Keeps what undo and the counts of changed bindings need of the time before the change. */
    private void beginChange() {
        history.keep(data);
        System.arraycopy(election.bindings, 0, bindingsBefore, 0, MAX_CELLS);
    }

    private int changeOffer(int library, int name, int offered) {
        beginChange();
        data.rows[library].offers[name] = offered;
        election.count(data);
        return election.winners[name];
    }

    /** The number of names for which a library that is loaded now has another binding than before the change. */
    private int changedBindings(int library) {
        if (!data.rows[library].isLoaded()) {
            return 0;
        }
        int count = 0;
        for (int name = 0; name < data.nameCount; name++) {
            int cell = cellOf(library, name);
            if (election.bindings[cell] != bindingsBefore[cell]) {
                count++;
            }
        }
        return count;
    }

    private int changedBindingsOfAll() {
        int count = 0;
        for (int library = 0; library < data.libraryCount; library++) {
            count += changedBindings(library);
        }
        return count;
    }

    /** One library, loaded or not. */
    private static final class Library {
        private int trust = 0;
        private boolean keeps = false;
        /** NONE while it is not loaded. */
        private int rank = NONE;
        /** For each name NONE, a value, or FORWARD - k. */
        private final int[] offers = new int[MAX_NAMES];
        private final int[] preferences = new int[MAX_LIBRARIES];
        private int preferenceCount = 0;

        /** Drops what an earlier text told of it. */
        private void startAs(int newTrust, int newRank) {
            trust = newTrust;
            keeps = false;
            rank = newRank;
            Arrays.fill(offers, NONE);
            preferenceCount = 0;
        }

        private void copyFrom(Library other) {
            trust = other.trust;
            keeps = other.keeps;
            rank = other.rank;
            System.arraycopy(other.offers, 0, offers, 0, MAX_NAMES);
            System.arraycopy(other.preferences, 0, preferences, 0, MAX_LIBRARIES);
            preferenceCount = other.preferenceCount;
        }

        private boolean isLoaded() {
            return rank != NONE;
        }

        private boolean hasOffer(int name) {
            return offers[name] != NONE;
        }

        private int countOffers() {
            int count = 0;
            for (int name = 0; name < MAX_NAMES; name++) {
                if (hasOffer(name)) {
                    count++;
                }
            }
            return count;
        }

        private boolean prefers(int library) {
            for (int i = 0; i < preferenceCount; i++) {
                if (preferences[i] == library) {
                    return true;
                }
            }
            return false;
        }

        private void addPreference(int library) {
            if (preferenceCount < MAX_LIBRARIES) {
                preferences[preferenceCount] = library;
                preferenceCount++;
            }
        }
    }

    /** All that a text tells and a change alters: what undo brings back. */
    private static final class Data {
        private final Library[] rows = new Library[MAX_LIBRARIES];
        private int libraryCount = 0;
        private int nameCount = 0;
        private int share = DEFAULT_SHARE;
        /** A weight never changes after it is made, so several data may hold the same one. */
        private Weight weight = new Weight(new int[] {Weight.TRUST});

        private Data() {
            for (int i = 0; i < MAX_LIBRARIES; i++) {
                rows[i] = new Library();
            }
        }

        private void clear() {
            libraryCount = 0;
            nameCount = 0;
            share = DEFAULT_SHARE;
        }

        private void copyFrom(Data other) {
            libraryCount = other.libraryCount;
            nameCount = other.nameCount;
            share = other.share;
            weight = other.weight;
            for (int i = 0; i < MAX_LIBRARIES; i++) {
                rows[i].copyFrom(other.rows[i]);
            }
        }

        private boolean isCandidate(int library, int name) {
            return rows[library].isLoaded() && rows[library].hasOffer(name);
        }

        private void takeOut(int library) {
            int left = rows[library].rank;
            rows[library].rank = NONE;
            for (int i = 0; i < libraryCount; i++) {
                if (rows[i].rank > left) {
                    rows[i].rank--;
                }
            }
        }

        private void takeIn(int library) {
            int loaded = 0;
            for (int i = 0; i < libraryCount; i++) {
                if (rows[i].isLoaded()) {
                    loaded++;
                }
            }
            rows[library].rank = loaded;
        }

        private int friendsOf(int library) {
            int count = 0;
            for (int i = 0; i < libraryCount; i++) {
                if (rows[i].isLoaded() && rows[i].prefers(library)) {
                    count++;
                }
            }
            return count;
        }

        private int weightOf(int library) {
            Library weighed = rows[library];
            return weight.valueOf(weighed.trust, weighed.rank, weighed.countOffers(), friendsOf(library));
        }
    }

    /** The weight expression in postfix order: numbers as they are, all else by the negative codes here. */
    private static final class Weight {
        private static final int TRUST = -1;
        private static final int RANK = -2;
        private static final int OFFERS = -3;
        private static final int FRIENDS = -4;
        private static final int PLUS = -5;
        private static final int MINUS = -6;
        private static final int TIMES = -7;
        private static final int DIVIDE = -8;

        private static final int LIMIT = 1000000;
        private static final int MAX_WEIGHT = 9999;
        /** A sum and a term wait for their right side on each of the 5 levels; one more value is at hand. */
        private static final int MAX_STACK = 11;

        private final int[] code;
        private final int[] stack = new int[MAX_STACK];

        private Weight(int[] ownCode) {
            code = ownCode;
        }

        private int valueOf(int trust, int rank, int offers, int friends) {
            int height = 0;
            for (int i = 0; i < code.length; i++) {
                int item = code[i];
                if (item <= PLUS) {
                    if (height >= 2) {
                        height--;
                        stack[height - 1] = operate(item, stack[height - 1], stack[height]);
                    }
                } else if (height < MAX_STACK) {
                    stack[height] = factorValue(item, trust, rank, offers, friends);
                    height++;
                }
            }
            return limited(stack[0], 0, MAX_WEIGHT);
        }

        private static int factorValue(int item, int trust, int rank, int offers, int friends) {
            switch (item) {
                case TRUST:
                    return trust;
                case RANK:
                    return rank;
                case OFFERS:
                    return offers;
                case FRIENDS:
                    return friends;
                default:
                    return item;
            }
        }

        private static int operate(int operation, long left, long right) {
            long value;
            switch (operation) {
                case PLUS:
                    value = left + right;
                    break;
                case MINUS:
                    value = left - right;
                    break;
                case TIMES:
                    value = left * right;
                    break;
                default:
                    value = right == 0 ? 0 : left / right;
                    break;
            }
            return limited(value, -LIMIT, LIMIT);
        }

        private static int limited(long value, int low, int high) {
            return (int) Math.max(low, Math.min(high, value));
        }
    }

    /** What follows from the data: counted as a whole, then only read. */
    private static final class Election {
        /** By library; NONE for one that is not loaded. */
        private final int[] weights = new int[MAX_LIBRARIES];
        /** By name. */
        private final int[] candidateCounts = new int[MAX_NAMES];
        private final int[] winners = new int[MAX_NAMES];
        private final int[] margins = new int[MAX_NAMES];
        /** By library and name, NONE where there is none. */
        private final int[] votes = new int[MAX_CELLS];
        private final int[] supports = new int[MAX_CELLS];
        private final int[] bindings = new int[MAX_CELLS];

        private void count(Data data) {
            for (int library = 0; library < data.libraryCount; library++) {
                weights[library] = data.rows[library].isLoaded() ? data.weightOf(library) : NONE;
            }
            for (int name = 0; name < data.nameCount; name++) {
                countCandidates(data, name);
                countVotes(data, name);
                countWinner(data, name);
                countMargin(data, name);
                countBindings(data, name);
            }
        }

        private void countCandidates(Data data, int name) {
            candidateCounts[name] = 0;
            for (int library = 0; library < data.libraryCount; library++) {
                boolean candidate = data.isCandidate(library, name);
                supports[cellOf(library, name)] = candidate ? 0 : NONE;
                if (candidate) {
                    candidateCounts[name]++;
                }
            }
        }

        private void countVotes(Data data, int name) {
            for (int library = 0; library < data.libraryCount; library++) {
                int chosen = choiceOf(data, library, name);
                votes[cellOf(library, name)] = chosen;
                if (chosen != NONE) {
                    supports[cellOf(chosen, name)] += weights[library];
                }
            }
        }

        private static int choiceOf(Data data, int library, int name) {
            Library voter = data.rows[library];
            if (!voter.isLoaded()) {
                return NONE;
            }
            if (voter.hasOffer(name)) {
                return library;
            }
            for (int i = 0; i < voter.preferenceCount; i++) {
                if (data.isCandidate(voter.preferences[i], name)) {
                    return voter.preferences[i];
                }
            }
            return NONE;
        }

        private void countWinner(Data data, int name) {
            int best = NONE;
            for (int library = 0; library < data.libraryCount; library++) {
                if (data.isCandidate(library, name) && (best == NONE || isAhead(data, library, best, name))) {
                    best = library;
                }
            }
            winners[name] = best;
        }

        private boolean isAhead(Data data, int library, int other, int name) {
            int support = supports[cellOf(library, name)];
            int otherSupport = supports[cellOf(other, name)];
            if (support != otherSupport) {
                return support > otherSupport;
            }
            return data.rows[library].rank < data.rows[other].rank;
        }

        private void countMargin(Data data, int name) {
            int winner = winners[name];
            if (winner == NONE) {
                margins[name] = NONE;
                return;
            }
            int second = 0;
            for (int library = 0; library < data.libraryCount; library++) {
                if (library != winner) {
                    second = Math.max(second, supports[cellOf(library, name)]);
                }
            }
            margins[name] = supports[cellOf(winner, name)] - second;
        }

        private void countBindings(Data data, int name) {
            int total = 0;
            for (int library = 0; library < data.libraryCount; library++) {
                total += Math.max(0, supports[cellOf(library, name)]);
            }
            for (int library = 0; library < data.libraryCount; library++) {
                int cell = cellOf(library, name);
                if (!data.rows[library].isLoaded()) {
                    bindings[cell] = NONE;
                } else if (data.rows[library].keeps && isLargeEnough(votes[cell], name, data.share, total)) {
                    bindings[cell] = votes[cell];
                } else {
                    bindings[cell] = winners[name];
                }
            }
        }

        private boolean isLargeEnough(int chosen, int name, int share, int total) {
            return chosen != NONE && 100 * supports[cellOf(chosen, name)] >= share * total;
        }
    }

    /** The way of one call, from definition to definition. */
    private static final class Route {
        /** 1 for each pair of library and name to which this call has come. */
        private final int[] visited = new int[MAX_CELLS];
        private int result = LOST;
        private int length = 0;

        private void follow(Data data, Election election, int library, int name) {
            Arrays.fill(visited, 0);
            result = LOOP;
            length = 0;
            int caller = library;
            int called = name;
            // A longer way would come to some pair for a second time.
            for (int i = 0; i < MAX_CELLS; i++) {
                int cell = cellOf(caller, called);
                if (visited[cell] != 0) {
                    return;
                }
                visited[cell] = 1;
                int bound = election.bindings[cell];
                if (bound == NONE) {
                    result = LOST;
                    return;
                }
                length++;
                int offered = data.rows[bound].offers[called];
                if (offered > FORWARD) {
                    result = offered;
                    return;
                }
                caller = bound;
                called = FORWARD - offered;
            }
        }
    }

    /** The data as they were before each of the latest changes. */
    private static final class History {
        private final Data[] kept = new Data[MAX_UNDO];
        private int next = 0;
        private int size = 0;

        private History() {
            for (int i = 0; i < MAX_UNDO; i++) {
                kept[i] = new Data();
            }
        }

        private void keep(Data data) {
            kept[next].copyFrom(data);
            next = (next + 1) % MAX_UNDO;
            if (size < MAX_UNDO) {
                size++;
            }
        }

        private boolean bringBack(Data data) {
            if (size == 0) {
                return false;
            }
            size--;
            next = (next + MAX_UNDO - 1) % MAX_UNDO;
            data.copyFrom(kept[next]);
            return true;
        }
    }

    /** Cuts the text into tokens; it always stands at one token, at last at the end. */
    private static final class Tokens {
        private static final int END = 0;
        private static final int WORD = 1;
        private static final int NUMBER = 2;
        private static final int SIGN = 3;
        /** A run of too many letters, which no place in the grammar allows. */
        private static final int LONG_RUN = 4;

        private static final int MAX_LETTERS = 8;
        /** Above all ranges, and still far from overflow. */
        private static final int HUGE = 1000000;

        private final byte[] text = new byte[MAX_TEXT];
        private int length = 0;
        private int position = 0;
        private int kind = END;
        private int start = 0;
        private long word = 0;
        private int number = 0;
        private int sign = 0;

        private void startText(byte[] source, int newLength) {
            length = Math.min(newLength, MAX_TEXT);
            System.arraycopy(source, 0, text, 0, length);
            position = 0;
            advance();
        }

        private void advance() {
            while (position < length && text[position] == ' ') {
                position++;
            }
            start = position;
            int letters = runOf('a', 'z');
            int digits = runOf('0', '9');
            if (position >= length) {
                kind = END;
            } else if (letters > 0) {
                takeWord(letters);
            } else if (digits > 0) {
                takeNumber(digits);
            } else {
                kind = SIGN;
                sign = text[position];
                position++;
            }
        }

        /** How many bytes from the lowest to the highest one follow one another here. */
        private int runOf(char lowest, char highest) {
            int end = position;
            while (end < length && text[end] >= lowest && text[end] <= highest) {
                end++;
            }
            return end - position;
        }

        private void takeWord(int letters) {
            kind = letters <= MAX_LETTERS ? WORD : LONG_RUN;
            word = 0;
            for (int i = 0; i < letters && position < length; i++) {
                word = word << 8 | text[position];
                position++;
            }
        }

        private void takeNumber(int digits) {
            kind = NUMBER;
            number = 0;
            for (int i = 0; i < digits && position < length; i++) {
                number = Math.min(HUGE, number * 10 + (text[position] - '0'));
                position++;
            }
        }

        private boolean isSign(char wanted) {
            return kind == SIGN && sign == wanted;
        }

        private boolean isWord(String wanted) {
            return kind == WORD && word == packed(wanted);
        }

        /** A word of up to 8 letters as one number, as takeWord() makes it. */
        private static long packed(String letters) {
            long value = 0;
            for (int i = 0; i < letters.length(); i++) {
                value = value << 8 | letters.charAt(i);
            }
            return value;
        }
    }

    /**
     * Reads a setup text into a draft. It looks at the tokens in their order and tests each one at once,
     * so that the error that it meets first is the one with the smallest offset.
     * The reading methods answer whether all went well; after a false nothing more is read.
     */
    private static final class SetupReader {
        private static final int MAX_DEPTH = 4;

        private final Tokens tokens = new Tokens();
        private final Data draft = new Data();
        private final long[] libraryWords = new long[MAX_LIBRARIES];
        private final long[] nameWords = new long[MAX_NAMES];
        private final int[] code = new int[MAX_TEXT];
        private int codeLength = 0;
        private boolean shareTold = false;
        private boolean weightTold = false;
        /** What the latest successful findLibrary, findName or readNumber found. */
        private int found = 0;
        private int errorCode = 0;
        private int errorPlace = NONE;

        private boolean readText(byte[] text, int length) {
            draft.clear();
            codeLength = 0;
            addCode(Weight.TRUST);
            shareTold = false;
            weightTold = false;
            tokens.startText(text, length);
            if (!readKeyword("link") || !readSign(';')) {
                return false;
            }
            for (int i = 0; i < MAX_TEXT && tokens.kind != Tokens.END; i++) {
                if (!readStatement() || !readSign(';')) {
                    return false;
                }
            }
            draft.weight = new Weight(Arrays.copyOf(code, codeLength));
            return true;
        }

        private boolean readStatement() {
            if (tokens.isWord("name")) {
                return readNewName();
            }
            if (tokens.isWord("library")) {
                return readNewLibrary();
            }
            if (tokens.isWord("offer")) {
                return readOffer();
            }
            if (tokens.isWord("prefer")) {
                return readPrefer();
            }
            if (tokens.isWord("share") && !shareTold) {
                return readShare();
            }
            if (tokens.isWord("weight") && !weightTold) {
                return readWeight();
            }
            return syntaxError();
        }

        private boolean readNewName() {
            if (draft.nameCount >= MAX_NAMES) {
                return error(TOO_MANY);
            }
            tokens.advance();
            if (!readNewWord(nameWords, draft.nameCount)) {
                return false;
            }
            draft.nameCount++;
            return true;
        }

        private boolean readNewLibrary() {
            if (draft.libraryCount >= MAX_LIBRARIES) {
                return error(TOO_MANY);
            }
            tokens.advance();
            if (!readNewWord(libraryWords, draft.libraryCount) || !readNumber(MAX_TRUST)) {
                return false;
            }
            Library added = draft.rows[draft.libraryCount];
            added.startAs(found, draft.libraryCount);
            draft.libraryCount++;
            if (tokens.isWord("keeps")) {
                added.keeps = true;
                tokens.advance();
            }
            return true;
        }

        private boolean readOffer() {
            tokens.advance();
            if (!findLibrary()) {
                return false;
            }
            Library offering = draft.rows[found];
            tokens.advance();
            if (!findName()) {
                return false;
            }
            int name = found;
            if (offering.hasOffer(name)) {
                return error(DUPLICATE);
            }
            tokens.advance();
            if (tokens.kind == Tokens.NUMBER) {
                if (!readNumber(MAX_VALUE)) {
                    return false;
                }
                offering.offers[name] = found;
                return true;
            }
            if (!readKeyword("to") || !findName()) {
                return false;
            }
            offering.offers[name] = FORWARD - found;
            tokens.advance();
            return true;
        }

        private boolean readPrefer() {
            tokens.advance();
            if (!findLibrary()) {
                return false;
            }
            int library = found;
            tokens.advance();
            if (!findLibrary()) {
                return false;
            }
            if (found == library || draft.rows[library].prefers(found)) {
                return error(DUPLICATE);
            }
            draft.rows[library].addPreference(found);
            tokens.advance();
            return true;
        }

        private boolean readShare() {
            shareTold = true;
            tokens.advance();
            if (!readNumber(MAX_SHARE)) {
                return false;
            }
            draft.share = found;
            return true;
        }

        private boolean readWeight() {
            weightTold = true;
            codeLength = 0;
            tokens.advance();
            return readSum(0);
        }

        /** The depth is the number of parentheses around the sum. */
        private boolean readSum(int depth) {
            if (!readTerm(depth)) {
                return false;
            }
            for (int i = 0; i < MAX_TEXT && (tokens.isSign('+') || tokens.isSign('-')); i++) {
                int operation = tokens.isSign('+') ? Weight.PLUS : Weight.MINUS;
                tokens.advance();
                if (!readTerm(depth)) {
                    return false;
                }
                addCode(operation);
            }
            return true;
        }

        private boolean readTerm(int depth) {
            if (!readFactor(depth)) {
                return false;
            }
            for (int i = 0; i < MAX_TEXT && (tokens.isSign('*') || tokens.isSign('/')); i++) {
                int operation = tokens.isSign('*') ? Weight.TIMES : Weight.DIVIDE;
                tokens.advance();
                if (!readFactor(depth)) {
                    return false;
                }
                addCode(operation);
            }
            return true;
        }

        private boolean readFactor(int depth) {
            if (tokens.isSign('(')) {
                if (depth >= MAX_DEPTH) {
                    return error(TOO_DEEP);
                }
                tokens.advance();
                return readSum(depth + 1) && readSign(')');
            }
            if (tokens.kind == Tokens.NUMBER) {
                if (!readNumber(MAX_VALUE)) {
                    return false;
                }
                addCode(found);
                return true;
            }
            int quantity = quantityCode();
            if (quantity == 0) {
                return syntaxError();
            }
            addCode(quantity);
            tokens.advance();
            return true;
        }

        /** The code of the quantity that the token tells, 0 if it tells none. */
        private int quantityCode() {
            if (tokens.isWord("trust")) {
                return Weight.TRUST;
            }
            if (tokens.isWord("rank")) {
                return Weight.RANK;
            }
            if (tokens.isWord("offers")) {
                return Weight.OFFERS;
            }
            return tokens.isWord("friends") ? Weight.FRIENDS : 0;
        }

        private void addCode(int item) {
            if (codeLength < MAX_TEXT) {
                code[codeLength] = item;
                codeLength++;
            }
        }

        private boolean readKeyword(String keyword) {
            if (!tokens.isWord(keyword)) {
                return syntaxError();
            }
            tokens.advance();
            return true;
        }

        private boolean readSign(char sign) {
            if (!tokens.isSign(sign)) {
                return syntaxError();
            }
            tokens.advance();
            return true;
        }

        private boolean readNumber(int highest) {
            if (tokens.kind != Tokens.NUMBER) {
                return syntaxError();
            }
            if (tokens.number > highest) {
                return error(OUT_OF_RANGE);
            }
            found = tokens.number;
            tokens.advance();
            return true;
        }

        /** Puts the word behind the first words of the row, which are in use already. */
        private boolean readNewWord(long[] words, int used) {
            if (tokens.kind != Tokens.WORD) {
                return syntaxError();
            }
            if (indexOfWord(words, used) != NONE) {
                return error(DUPLICATE);
            }
            words[used] = tokens.word;
            tokens.advance();
            return true;
        }

        /** The finding methods stay at their word, because a caller may find a fault in it. */
        private boolean findLibrary() {
            return findWord(libraryWords, draft.libraryCount);
        }

        private boolean findName() {
            return findWord(nameWords, draft.nameCount);
        }

        private boolean findWord(long[] words, int used) {
            if (tokens.kind != Tokens.WORD) {
                return syntaxError();
            }
            int index = indexOfWord(words, used);
            if (index == NONE) {
                return error(UNKNOWN);
            }
            found = index;
            return true;
        }

        private int indexOfWord(long[] words, int used) {
            for (int i = 0; i < used; i++) {
                if (words[i] == tokens.word) {
                    return i;
                }
            }
            return NONE;
        }

        private boolean syntaxError() {
            return error(SYNTAX_ERROR);
        }

        /** All errors are at the token that is looked at. */
        private boolean error(int kind) {
            errorCode = kind;
            errorPlace = tokens.start;
            return false;
        }
    }
}
