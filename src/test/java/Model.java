import java.util.ArrayList;
import java.util.HashSet;
import java.util.IdentityHashMap;
import java.util.List;
import java.util.Map;
import java.util.Set;
import java.util.regex.Matcher;
import java.util.regex.Pattern;

/**
 * The document in its slowest and plainest form: words are cut by trying all cuttings, uses are
 * counted anew each time, and undo keeps whole copies. The class under test is held against it.
 */
final class Model {
    static final int NONE = -1;

    private static final class Piece {
        final String letters;
        final int price;
        final int owner;
        int idleSince;

        Piece(String letters, int price, int owner, int idleSince) {
            this.letters = letters;
            this.price = price;
            this.owner = owner;
            this.idleSince = idleSince;
        }
    }

    private static final class Word {
        final int user;
        List<Piece> parts = new ArrayList<>();

        Word(int user) {
            this.user = user;
        }

        String letters() {
            StringBuilder all = new StringBuilder();
            for (Piece piece : parts) {
                all.append(piece.letters);
            }
            return all.toString();
        }
    }

    private static final class State {
        int[] settings = {0, 0, 1, 0, 0};
        int time;
        int chest;
        int fund;
        int[] sums = new int[6];
        List<String> names = new ArrayList<>();
        List<Integer> coins = new ArrayList<>();
        List<Piece> pieces = new ArrayList<>();
        List<Word> words = new ArrayList<>();

        State copy() {
            State s = new State();
            s.settings = settings.clone();
            s.time = time;
            s.chest = chest;
            s.fund = fund;
            s.sums = sums.clone();
            s.names.addAll(names);
            s.coins.addAll(coins);
            Map<Piece, Piece> copies = new IdentityHashMap<>();
            for (Piece p : pieces) {
                Piece q = new Piece(p.letters, p.price, p.owner, p.idleSince);
                copies.put(p, q);
                s.pieces.add(q);
            }
            for (Word w : words) {
                Word v = new Word(w.user);
                for (Piece p : w.parts) {
                    v.parts.add(copies.get(p));
                }
                s.words.add(v);
            }
            return s;
        }

        int uses(Piece piece) {
            int uses = 0;
            for (Word w : words) {
                for (Piece p : w.parts) {
                    uses += p == piece ? 1 : 0;
                }
            }
            return uses;
        }

        Piece known(String letters) {
            for (Piece p : pieces) {
                if (p.letters.equals(letters)) {
                    return p;
                }
            }
            return null;
        }

        int newPrice(String letters) {
            return settings[0] + settings[1] * letters.length();
        }

        void addCoins(int user, int more) {
            coins.set(user, coins.get(user) + more);
        }
    }

    private String buffer = "";
    private int errorAt = NONE;
    private State now = new State();
    private final List<State> history = new ArrayList<>();
    private final State[] slots = new State[2];

    // ---- text

    int append(String twentySigns) {
        if (buffer.length() + 20 > 600) {
            return NONE;
        }
        buffer += twentySigns;
        return buffer.length();
    }

    int parse(int length) {
        argument(length >= 0 && length <= buffer.length());
        String text = buffer.substring(0, length);
        buffer = "";
        Reader reader = new Reader(text);
        reader.read();
        if (reader.code != 0) {
            errorAt = reader.at;
            return reader.code;
        }
        errorAt = NONE;
        now = reader.state;
        history.clear();
        slots[0] = null;
        slots[1] = null;
        return 0;
    }

    int errorPosition() {
        return errorAt;
    }

    int size(int what) {
        argument(what >= 0 && what <= 11);
        int[] all = {now.coins.size(), now.pieces.size(), now.words.size(), now.time, now.chest,
            now.fund, now.settings[0], now.settings[1], now.settings[2], now.settings[3],
            now.settings[4], history.size()};
        return all[what];
    }

    int find(int kind) {
        String word = takeWord();
        argument(kind >= 0 && kind <= 2);
        if (word == null) {
            return NONE;
        }
        if (kind == 0) {
            return now.names.indexOf(word);
        }
        if (kind == 1) {
            return now.pieces.indexOf(now.known(word));
        }
        for (int i = 0; i < now.words.size(); i++) {
            if (now.words.get(i).letters().equals(word)) {
                return i;
            }
        }
        return NONE;
    }

    // ---- users, pieces, words

    int user(int user, int what) {
        bounds(user, now.coins.size());
        argument(what >= 0 && what <= 4);
        int[] all = {now.coins.get(user), 0, 0, 0, 0};
        for (Word w : now.words) {
            all[1] += w.user == user ? 1 : 0;
            all[2] += w.user == user ? w.parts.size() * now.settings[2] : 0;
        }
        for (Piece p : now.pieces) {
            all[3] += p.owner == user ? 1 : 0;
            all[4] += p.owner == user ? p.price : 0;
        }
        return all[what];
    }

    int piece(int piece, int what) {
        bounds(piece, now.pieces.size());
        argument(what >= 0 && what <= 4);
        Piece p = now.pieces.get(piece);
        int uses = now.uses(p);
        int[] all = {p.letters.length(), p.price, p.owner, uses, uses > 0 ? NONE : p.idleSince};
        return all[what];
    }

    int pieceLetter(int piece, int k) {
        bounds(piece, now.pieces.size());
        return letter(now.pieces.get(piece).letters, k);
    }

    int word(int word, int what) {
        bounds(word, now.words.size());
        argument(what >= 0 && what <= 3);
        Word w = now.words.get(word);
        int[] all = {w.user, w.letters().length(), w.parts.size(),
            w.parts.size() * now.settings[2]};
        return all[what];
    }

    int wordLetter(int word, int k) {
        bounds(word, now.words.size());
        return letter(now.words.get(word).letters(), k);
    }

    int part(int word, int k) {
        bounds(word, now.words.size());
        List<Piece> parts = now.words.get(word).parts;
        return k < 0 || k >= parts.size() ? NONE : now.pieces.indexOf(parts.get(k));
    }

    // ---- what would be

    int quote(int what) {
        String word = takeWord();
        argument(what >= 0 && what <= 4);
        if (word == null) {
            return NONE;
        }
        List<String> cutting = cheapest(now, word, false);
        Set<String> fresh = fresh(now, cutting);
        int deposits = cutting.size() * now.settings[2];
        int prices = prices(now, fresh);
        int[] all = {deposits + prices, deposits, prices, cutting.size(), fresh.size()};
        return all[what];
    }

    int whyNotStore(int user) {
        String word = takeWord();
        bounds(user, now.coins.size());
        return word == null ? 1 : refusal(now, user, cheapest(now, word, false));
    }

    int ways(int word) {
        bounds(word, now.words.size());
        int ways = 0;
        for (List<String> cutting : cuttings(now.words.get(word).letters())) {
            ways += fresh(now, cutting).isEmpty() ? 1 : 0;
        }
        return ways;
    }

    int fewest(int word) {
        bounds(word, now.words.size());
        return cheapest(now, now.words.get(word).letters(), true).size();
    }

    int saving(int word) {
        return fewest(word) < 0 ? NONE
                : (now.words.get(word).parts.size() - fewest(word)) * now.settings[2];
    }

    int bestPart(int word, int what) {
        bounds(word, now.words.size());
        argument(what >= 0 && what <= 2);
        String letters = now.words.get(word).letters();
        int[] best = {NONE, NONE, 0};
        int sum = sumOfFewest(null);
        for (int start = letters.length() - 1; start >= 0; start--) {
            for (int end = start + 1; end <= Math.min(start + 6, letters.length()); end++) {
                String part = letters.substring(start, end);
                if (now.known(part) != null) {
                    continue;
                }
                int less = sum - sumOfFewest(part);
                boolean better = less > best[2] || less == best[2] && less > 0
                        && end - start <= best[1];
                if (better) {
                    best = new int[] {start, end - start, less};
                }
            }
        }
        return best[2] == 0 ? NONE : best[what];
    }

    private int sumOfFewest(String more) {
        Set<String> book = new HashSet<>();
        for (Piece p : now.pieces) {
            book.add(p.letters);
        }
        if (more != null) {
            book.add(more);
        }
        int sum = 0;
        for (Word w : now.words) {
            String letters = w.letters();
            int[] fewest = new int[letters.length() + 1];
            for (int end = 1; end <= letters.length(); end++) {
                fewest[end] = 1000;
                for (int start = Math.max(0, end - 6); start < end; start++) {
                    if (book.contains(letters.substring(start, end))) {
                        fewest[end] = Math.min(fewest[end], fewest[start] + 1);
                    }
                }
            }
            sum += fewest[letters.length()];
        }
        return sum;
    }

    int shared(int word, int other) {
        bounds(word, now.words.size());
        bounds(other, now.words.size());
        Set<String> both = new HashSet<>();
        for (Piece p : now.words.get(word).parts) {
            if (now.words.get(other).parts.contains(p)) {
                both.add(p.letters);
            }
        }
        return both.size();
    }

    int favourite() {
        int best = NONE;
        for (int i = now.pieces.size() - 1; i >= 0; i--) {
            if (best == NONE
                    || now.uses(now.pieces.get(i)) >= now.uses(now.pieces.get(best))) {
                best = i;
            }
        }
        return best;
    }

    int richest() {
        int best = NONE;
        for (int i = now.coins.size() - 1; i >= 0; i--) {
            if (best == NONE || user(i, 0) + user(i, 2) >= user(best, 0) + user(best, 2)) {
                best = i;
            }
        }
        return best;
    }

    int account(int what) {
        argument(what >= 0 && what <= 5);
        return now.sums[what];
    }

    // ---- changes

    int store(int user) {
        String word = takeWord();
        bounds(user, now.coins.size());
        argument(word != null);
        List<String> cutting = cheapest(now, word, false);
        state(refusal(now, user, cutting) == 0);
        remember();
        put(now, user, cutting);
        return now.words.size() - 1;
    }

    int remove(int word) {
        bounds(word, now.words.size());
        remember();
        Word gone = now.words.remove(word);
        settle(gone.parts);
        giveBack(gone.user, gone.parts.size());
        return now.coins.get(gone.user);
    }

    int recut(int word) {
        bounds(word, now.words.size());
        remember();
        return cutAnew(now.words.get(word));
    }

    int recutAll() {
        remember();
        int back = 0;
        for (Word w : now.words) {
            back += cutAnew(w);
        }
        return back;
    }

    int bring(int user) {
        String word = takeWord();
        bounds(user, now.coins.size());
        argument(word != null && word.length() <= 6 && now.known(word) == null);
        state(now.pieces.size() < 24 && now.coins.get(user) >= now.newPrice(word));
        remember();
        buy(now, user, word);
        return now.pieces.size() - 1;
    }

    int tick(int ticks) {
        argument(ticks >= 1 && ticks <= 30);
        remember();
        int went = 0;
        for (int i = 0; i < ticks; i++) {
            now.time++;
            for (Piece p : new ArrayList<>(now.pieces)) {
                if (p.owner != NONE && now.uses(p) == 0
                        && now.time - p.idleSince > now.settings[3]) {
                    int refund = p.price * now.settings[4] / 100;
                    now.pieces.remove(p);
                    now.addCoins(p.owner, refund);
                    now.chest -= refund;
                    now.sums[1] += refund;
                    now.sums[5]++;
                    went++;
                }
            }
        }
        return went;
    }

    int pay(int user, int other, int coins) {
        bounds(user, now.coins.size());
        bounds(other, now.coins.size());
        argument(coins >= 0 && coins <= 9999);
        state(now.coins.get(user) >= coins);
        remember();
        now.addCoins(user, -coins);
        now.addCoins(other, coins);
        return now.coins.get(other);
    }

    // ---- undo and snapshots

    int undo() {
        if (history.isEmpty()) {
            return NONE;
        }
        now = history.remove(history.size() - 1);
        return history.size();
    }

    boolean saveSnapshot(int slot) {
        bounds(slot, 2);
        boolean earlier = slots[slot] != null;
        slots[slot] = now.copy();
        return earlier;
    }

    int restoreSnapshot(int slot) {
        bounds(slot, 2);
        state(slots[slot] != null);
        now = slots[slot].copy();
        history.clear();
        return now.words.size();
    }

    // ---- cutting

    private static List<List<String>> cuttings(String word) {
        List<List<String>> all = new ArrayList<>();
        if (word.isEmpty()) {
            all.add(new ArrayList<>());
        }
        for (int n = Math.min(6, word.length()); n >= 1; n--) {
            for (List<String> rest : cuttings(word.substring(n))) {
                List<String> cutting = new ArrayList<>();
                cutting.add(word.substring(0, n));
                cutting.addAll(rest);
                all.add(cutting);
            }
        }
        return all;
    }

    private static List<String> cheapest(State s, String word, boolean onlyKnown) {
        List<String> best = null;
        int least = 0;
        for (List<String> cutting : cuttings(word)) {
            int cost = 0;
            for (String part : cutting) {
                boolean known = s.known(part) != null;
                cost += s.settings[2] + (known ? 0 : onlyKnown ? 1000000 : s.newPrice(part));
            }
            if (best == null || cost < least || cost == least && before(cutting, best)) {
                best = cutting;
                least = cost;
            }
        }
        return best;
    }

    private static boolean before(List<String> one, List<String> other) {
        if (one.size() != other.size()) {
            return one.size() < other.size();
        }
        for (int i = 0; i < one.size(); i++) {
            if (one.get(i).length() != other.get(i).length()) {
                return one.get(i).length() > other.get(i).length();
            }
        }
        return false;
    }

    private static Set<String> fresh(State s, List<String> cutting) {
        Set<String> fresh = new HashSet<>();
        for (String part : cutting) {
            if (s.known(part) == null) {
                fresh.add(part);
            }
        }
        return fresh;
    }

    private static int prices(State s, Set<String> fresh) {
        int sum = 0;
        for (String part : fresh) {
            sum += s.newPrice(part);
        }
        return sum;
    }

    private static int refusal(State s, int user, List<String> cutting) {
        Set<String> fresh = fresh(s, cutting);
        if (s.words.size() == 16) {
            return 2;
        }
        if (s.pieces.size() + fresh.size() > 24) {
            return 3;
        }
        int cost = prices(s, fresh) + cutting.size() * s.settings[2];
        return s.coins.get(user) < cost ? 4 : 0;
    }

    private static void put(State s, int user, List<String> cutting) {
        Word word = new Word(user);
        for (String part : cutting) {
            if (s.known(part) == null) {
                buy(s, user, part);
            }
            word.parts.add(s.known(part));
        }
        s.words.add(word);
        int deposits = cutting.size() * s.settings[2];
        s.addCoins(user, -deposits);
        s.fund += deposits;
        s.sums[2] += deposits;
    }

    private static void buy(State s, int user, String letters) {
        int price = s.newPrice(letters);
        s.pieces.add(new Piece(letters, price, user, s.time));
        s.addCoins(user, -price);
        s.chest += price;
        s.sums[0] += price;
        s.sums[4]++;
    }

    private int cutAnew(Word word) {
        List<Piece> before = word.parts;
        word.parts = new ArrayList<>();
        StringBuilder letters = new StringBuilder();
        for (Piece p : before) {
            letters.append(p.letters);
        }
        for (String part : cheapest(now, letters.toString(), true)) {
            word.parts.add(now.known(part));
        }
        settle(before);
        int fewer = before.size() - word.parts.size();
        giveBack(word.user, fewer);
        return fewer * now.settings[2];
    }

    private void settle(List<Piece> pieces) {
        for (Piece p : pieces) {
            if (now.uses(p) == 0) {
                p.idleSince = now.time;
            }
        }
    }

    private void giveBack(int user, int parts) {
        int deposits = parts * now.settings[2];
        now.addCoins(user, deposits);
        now.fund -= deposits;
        now.sums[3] += deposits;
    }

    private void remember() {
        history.add(now.copy());
        if (history.size() > 10) {
            history.remove(0);
        }
    }

    private String takeWord() {
        String all = buffer;
        buffer = "";
        return all.matches("[a-z]{1,12} *") ? all.trim() : null;
    }

    private static int letter(String letters, int k) {
        return k < 0 || k >= letters.length() ? NONE : letters.charAt(k) - 'a';
    }

    private static void bounds(int number, int count) {
        if (number < 0 || number >= count) {
            throw new IndexOutOfBoundsException();
        }
    }

    private static void argument(boolean fine) {
        if (!fine) {
            throw new IllegalArgumentException();
        }
    }

    private static void state(boolean fine) {
        if (!fine) {
            throw new IllegalStateException();
        }
    }

    /** Reads a text that has been split into tokens first. */
    private static final class Reader {
        private static final Pattern TOKEN = Pattern.compile("[a-z]+|[0-9]+|[^ \n]");
        private static final int[] LEAST = {0, 0, 1, 0, 0};
        private static final int[] MOST = {99, 9, 9, 20, 100};

        final State state = new State();
        int code = 0;
        int at = NONE;
        private final List<String> tokens = new ArrayList<>();
        private final List<Integer> places = new ArrayList<>();
        private int next = 0;

        Reader(String text) {
            Matcher m = TOKEN.matcher(text);
            while (m.find()) {
                tokens.add(m.group());
                places.add(m.start());
            }
            tokens.add("");
            places.add(text.length());
        }

        void read() {
            require("book".equals(take()), 1);
            for (int i = 0; code == 0 && i < 5; i++) {
                state.settings[i] = number(LEAST[i], MOST[i]);
            }
            semicolon();
            while (code == 0 && !tokens.get(next).isEmpty()) {
                statement();
            }
        }

        private void statement() {
            switch (take()) {
                case "user":
                    require(state.names.size() < 4, 5);
                    String name = letters();
                    require(!state.names.contains(name), 2);
                    int coins = number(0, 9999);
                    if (code == 0) {
                        state.names.add(name);
                        state.coins.add(coins);
                    }
                    break;
                case "piece":
                    require(state.pieces.size() < 24, 5);
                    String piece = letters();
                    require(state.known(piece) == null, 2);
                    require(piece.length() <= 6, 3);
                    if (code == 0) {
                        state.pieces.add(new Piece(piece, 0, NONE, 0));
                    }
                    break;
                case "word":
                    require(state.words.size() < 16, 5);
                    int user = state.names.indexOf(letters());
                    require(user >= 0, 4);
                    String word = letters();
                    if (code == 0) {
                        List<String> cutting = cheapest(state, word, false);
                        require(refusal(state, user, cutting) == 0, 6);
                        if (code == 0) {
                            put(state, user, cutting);
                        }
                    }
                    break;
                default:
                    require(false, 1);
            }
            semicolon();
        }

        private String take() {
            return code != 0 ? "" : tokens.get(next++);
        }

        private String letters() {
            String token = take();
            require(token.matches("[a-z]{1,12}"), 1);
            return token;
        }

        private int number(int least, int most) {
            String token = take();
            require(token.matches("[0-9]{1,4}"), 1);
            int value = code == 0 ? Integer.parseInt(token) : 0;
            require(value >= least && value <= most, 3);
            return value;
        }

        private void semicolon() {
            require(take().equals(";"), 1);
        }

        /** Tells an error of the token that was taken last, unless one was told before. */
        private void require(boolean fine, int errorCode) {
            if (!fine && code == 0) {
                code = errorCode;
                at = places.get(next - 1);
            }
        }
    }
}
