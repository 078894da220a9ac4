import java.util.ArrayList;
import java.util.HashSet;
import java.util.List;
import java.util.NoSuchElementException;
import java.util.Set;

/**
 * The document once more, as plainly as it can be told: with lists, copies, recursion and every row tried.
 * It shares no code and no way of reckoning with GrownWords; ModelTests compares both.
 */
final class Model {
    static final int NONE = -1;

    interface Expr {
        int of(int[] trunk, int day, int heat);
    }

    static final class Fault extends RuntimeException {
        final int kind;
        final int place;

        Fault(int kind, int place) {
            this.kind = kind;
            this.place = place;
        }
    }

    /** What a text tells. */
    static final class Told {
        final List<String> words = new ArrayList<>();
        final List<Integer> firm = new ArrayList<>();
        final List<int[]> trunks = new ArrayList<>();
        final List<Integer> heat = new ArrayList<>();
        Expr grows = null;
    }

    static final int SAID = 0, MEANT = 1, STRAP = 2, GROWN = 3, TREATY = 4;

    static final class State {
        List<int[]> trunks = new ArrayList<>();
        int day = 0;

        State copy() {
            State c = new State();
            for (int[] t : trunks) {
                c.trunks.add(t.clone());
            }
            c.day = day;
            return c;
        }
    }

    static final class Everything {
        State now = new State();
        List<State> acts = new ArrayList<>();
        List<int[]> seen = new ArrayList<>();
        int[] status = new int[3];

        Everything copy() {
            Everything c = new Everything();
            c.now = now.copy();
            for (State a : acts) {
                c.acts.add(a.copy());
            }
            for (int[] s : seen) {
                c.seen.add(s.clone());
            }
            c.status = status.clone();
            return c;
        }
    }

    StringBuilder tape = new StringBuilder();
    Told told = new Told();
    Everything all = new Everything();
    Everything image = null;
    int fault = NONE;

    // ---- the text

    final class Parser {
        final String text;
        int pos = 0;
        String token;
        int start;
        final Told out = new Told();

        Parser(String text) {
            this.text = text;
            advance();
        }

        void advance() {
            while (pos < text.length() && (text.charAt(pos) == 32 || text.charAt(pos) == 10)) {
                pos++;
            }
            start = pos;
            if (pos == text.length()) {
                token = "";
                return;
            }
            String rest = text.substring(pos);
            int n = 0;
            while (n < rest.length() && rest.charAt(n) >= 'a' && rest.charAt(n) <= 'z') {
                n++;
            }
            if (n == 0) {
                while (n < rest.length() && rest.charAt(n) >= '0' && rest.charAt(n) <= '9') {
                    n++;
                }
            }
            if (n == 0) {
                n = 1;
            }
            token = rest.substring(0, n);
            pos += n;
        }

        boolean isWord() {
            return token.matches("[a-z]+");
        }

        boolean isNumber() {
            return token.matches("[0-9]+");
        }

        void demand(boolean fine, int kind) {
            if (!fine) {
                throw new Fault(kind, start);
            }
        }

        int number(int most, int kind) {
            demand(isNumber(), 1);
            demand(token.length() <= 4, 2);
            int n = Integer.parseInt(token);
            demand(n <= most, kind);
            advance();
            return n;
        }

        void sign(String s) {
            demand(token.equals(s), 1);
            advance();
        }

        Told lines() {
            while (!token.isEmpty()) {
                String first = token;
                switch (first) {
                    case "word" -> {
                        demand(out.words.size() < 8, 2);
                        advance();
                        demand(isWord(), 1);
                        demand(token.length() <= 8, 2);
                        demand(!out.words.contains(token), 4);
                        String letters = token;
                        advance();
                        int firm = number(9, 2);
                        out.words.add(letters);
                        out.firm.add(firm);
                    }
                    case "trunk", "treaty" -> {
                        demand(out.trunks.size() < 6, 2);
                        advance();
                        int a = number(out.words.size() - 1, 3);
                        int b = number(out.words.size() - 1, 3);
                        int s = number(9, 2);
                        out.trunks.add(new int[] {a, b, s, 0, first.equals("treaty") ? 1 : 0});
                    }
                    case "heat" -> {
                        demand(out.heat.isEmpty(), 5);
                        advance();
                        do {
                            demand(out.heat.size() < 8 || !isNumber(), 2);
                            out.heat.add(number(9, 2));
                        } while (!token.equals(";") && isNumber());
                    }
                    case "grows" -> {
                        demand(out.grows == null, 5);
                        advance();
                        out.grows = expr(0);
                    }
                    default -> demand(false, 1);
                }
                sign(";");
            }
            return out;
        }

        Expr expr(int within) {
            if (within >= 6) {
                demand(!(isNumber() || isWord() || token.equals("(")), 2);
            }
            Expr left = and(within);
            while (token.equals("or")) {
                advance();
                Expr a = left;
                Expr b = and(within);
                left = (t, d, h) -> (a.of(t, d, h) != 0) | (b.of(t, d, h) != 0) ? 1 : 0;
            }
            return left;
        }

        Expr and(int within) {
            Expr left = not(within, 0);
            while (token.equals("and")) {
                advance();
                Expr a = left;
                Expr b = not(within, 0);
                left = (t, d, h) -> (a.of(t, d, h) != 0) & (b.of(t, d, h) != 0) ? 1 : 0;
            }
            return left;
        }

        Expr not(int within, int nots) {
            if (token.equals("not")) {
                demand(nots < 6, 2);
                advance();
                Expr a = not(within, nots + 1);
                return (t, d, h) -> a.of(t, d, h) == 0 ? 1 : 0;
            }
            Expr a = sum(within);
            if (token.equals("<")) {
                advance();
                Expr b = sum(within);
                return (t, d, h) -> a.of(t, d, h) < b.of(t, d, h) ? 1 : 0;
            }
            if (token.equals("=")) {
                advance();
                Expr b = sum(within);
                return (t, d, h) -> a.of(t, d, h) == b.of(t, d, h) ? 1 : 0;
            }
            return a;
        }

        Expr sum(int within) {
            Expr left = product(within);
            while (token.equals("+") || token.equals("-")) {
                boolean plus = token.equals("+");
                advance();
                Expr a = left;
                Expr b = product(within);
                left = (t, d, h) -> plus ? a.of(t, d, h) + b.of(t, d, h) : a.of(t, d, h) - b.of(t, d, h);
            }
            return left;
        }

        Expr product(int within) {
            Expr left = part(within);
            while (token.equals("*") || token.equals("/")) {
                boolean times = token.equals("*");
                advance();
                Expr a = left;
                Expr b = part(within);
                left = (t, d, h) -> {
                    int x = a.of(t, d, h);
                    int y = b.of(t, d, h);
                    return times ? x * y : y == 0 ? 0 : (int) ((long) x / y);
                };
            }
            return left;
        }

        Expr part(int within) {
            if (token.equals("(")) {
                advance();
                Expr e = expr(within + 1);
                sign(")");
                return e;
            }
            if (isNumber()) {
                int n = number(9999, 2);
                return (t, d, h) -> n;
            }
            demand(isWord(), 1);
            Expr e = switch (token) {
                case "strap" -> (t, d, h) -> t[STRAP];
                case "heat" -> (t, d, h) -> h;
                case "grown" -> (t, d, h) -> t[GROWN];
                case "said" -> (t, d, h) -> out.firm.get(t[SAID]);
                case "meant" -> (t, d, h) -> out.firm.get(t[MEANT]);
                case "overlap" -> (t, d, h) -> overlap(out.words.get(t[SAID]), out.words.get(t[MEANT]));
                case "day" -> (t, d, h) -> d;
                default -> null;
            };
            demand(e != null, 3);
            advance();
            return e;
        }
    }

    // ---- words

    static int overlap(String a, String b) {
        int best = 0;
        for (int k = 1; k <= Math.min(a.length(), b.length()) - 1; k++) {
            if (a.endsWith(b.substring(0, k))) {
                best = k;
            }
        }
        return best;
    }

    static int changes(String a, String b) {
        int[][] d = new int[a.length() + 1][b.length() + 1];
        for (int i = 0; i <= a.length(); i++) {
            for (int k = 0; k <= b.length(); k++) {
                if (i == 0 || k == 0) {
                    d[i][k] = i + k;
                } else {
                    int other = d[i - 1][k - 1] + (a.charAt(i - 1) == b.charAt(k - 1) ? 0 : 1);
                    d[i][k] = Math.min(other, 1 + Math.min(d[i - 1][k], d[i][k - 1]));
                }
            }
        }
        return d[a.length()][b.length()];
    }

    /** Of all rows of letters of a that stand in b in their order, the longest. */
    static int common(String a, String b) {
        int best = 0;
        for (int bits = 0; bits < 1 << a.length(); bits++) {
            int from = 0;
            int n = 0;
            for (int i = 0; i < a.length() && from >= 0; i++) {
                if ((bits >> i & 1) == 1) {
                    from = b.indexOf(a.charAt(i), from) + 1;
                    n++;
                    if (from == 0) {
                        n = -1;
                        break;
                    }
                }
            }
            best = Math.max(best, n);
        }
        return best;
    }

    static String sorted(String a) {
        char[] c = a.toCharArray();
        java.util.Arrays.sort(c);
        return new String(c);
    }

    List<Integer> bestRow = null;
    int bestLength;

    void tryRows(List<Integer> row) {
        if (row.size() == told.words.size()) {
            String line = "";
            int n = 0;
            for (int i = 0; i < row.size(); i++) {
                n += told.words.get(row.get(i)).length();
                n -= i == 0 ? 0 : overlap(told.words.get(row.get(i - 1)), told.words.get(row.get(i)));
            }
            if (bestRow == null || n < bestLength) {
                bestRow = new ArrayList<>(row);
                bestLength = n;
            }
            return;
        }
        for (int w = 0; w < told.words.size(); w++) {
            if (!row.contains(w)) {
                row.add(w);
                tryRows(row);
                row.remove(row.size() - 1);
            }
        }
    }

    void tryChains(List<Integer> row) {
        if (row.size() > bestRow.size()) {
            bestRow = new ArrayList<>(row);
        }
        for (int w = 0; w < told.words.size(); w++) {
            if (row.contains(w)) {
                continue;
            }
            if (!row.isEmpty()) {
                String last = told.words.get(row.get(row.size() - 1));
                if (last.charAt(last.length() - 1) != told.words.get(w).charAt(0)) {
                    continue;
                }
            }
            row.add(w);
            tryChains(row);
            row.remove(row.size() - 1);
        }
    }

    // ---- trunks

    int fullAt(int[] t) {
        return Math.min(told.words.get(t[SAID]).length(), told.words.get(t[MEANT]).length());
    }

    boolean isFull(int[] t) {
        return t[GROWN] == fullAt(t);
    }

    String blendOf(int[] t) {
        String a = told.words.get(t[SAID]);
        String b = told.words.get(t[MEANT]);
        return a.substring(0, a.length() - (t[GROWN] + 1) / 2) + b.substring(t[GROWN] / 2);
    }

    int heatOf(int day) {
        return told.heat.isEmpty() ? 5 : told.heat.get(day % told.heat.size());
    }

    void grow(int[] t, int day, int heat) {
        int g = told.grows == null ? heat > t[STRAP] ? 1 : 0 : told.grows.of(t, day, heat);
        g = g < 0 ? 0 : g > 3 ? 3 : g;
        if (t[TREATY] == 1) {
            g = 2 * g;
        }
        t[GROWN] = Math.min(fullAt(t), t[GROWN] + g);
    }

    State behind(State from, int days) {
        State s = from.copy();
        for (int i = 0; i < days; i++) {
            for (int[] t : s.trunks) {
                grow(t, s.day, heatOf(s.day));
            }
            s.day++;
        }
        return s;
    }

    State with(int trunk, int strap) {
        State s = all.now.copy();
        s.trunks.get(trunk)[STRAP] = strap;
        return s;
    }

    int n() {
        return all.now.trunks.size();
    }

    int words() {
        return told.words.size();
    }

    void be(boolean there) {
        if (!there) {
            throw new NoSuchElementException();
        }
    }

    void fit(boolean fits) {
        if (!fits) {
            throw new IllegalArgumentException();
        }
    }

    boolean hasTrunk(int t) {
        return t >= 0 && t < n();
    }

    boolean hasWord(int w) {
        return w >= 0 && w < words();
    }

    int refuse(int which) {
        all.status[which]++;
        return NONE;
    }

    void act() {
        all.acts.add(all.now.copy());
        if (all.acts.size() > 40) {
            all.acts.remove(0);
        }
    }

    // ---- the face

    int feed(int a, int b, int c, int d, int e) {
        if (tape.length() > 680) {
            return NONE;
        }
        for (int x : new int[] {a, b, c, d, e}) {
            for (byte y : java.nio.ByteBuffer.allocate(4).putInt(x).array()) {
                tape.append((char) (y & 255));
            }
        }
        return tape.length();
    }

    int baggage(int n) {
        fit(n >= 0 && n <= tape.length());
        String text = tape.substring(0, n);
        tape = new StringBuilder();
        try {
            told = new Parser(text).lines();
        } catch (Fault f) {
            fault = f.place;
            all.status[0]++;
            return f.kind;
        }
        fault = NONE;
        int[] status = all.status;
        all = new Everything();
        all.status = status;
        for (int[] t : told.trunks) {
            all.now.trunks.add(t.clone());
        }
        image = null;
        return 0;
    }

    int fault() {
        return fault;
    }

    int count(int what) {
        be(what >= 0 && what <= 12);
        int full = 0;
        int treaties = 0;
        int letters = 0;
        for (int t = 0; t < n(); t++) {
            int[] one = all.now.trunks.get(t);
            full += isFull(one) ? 1 : 0;
            treaties += one[TREATY] << t;
            letters += blendOf(one).length();
        }
        return new int[] {words(), n(), all.now.day, heatOf(all.now.day), full, treaties, letters, all.acts.size(),
            all.seen.size(), tape.length(), all.status[0], all.status[1], all.status[2]}[what];
    }

    int word(int word, int what) {
        be(hasWord(word) && what >= 0 && what <= 4);
        String one = told.words.get(word);
        int within = 0;
        int anagrams = 0;
        for (int w = 0; w < words(); w++) {
            within |= told.words.get(w).contains(one) ? 1 << w : 0;
            anagrams |= sorted(told.words.get(w)).equals(sorted(one)) ? 1 << w : 0;
        }
        int packed = 0;
        for (int t = 0; t < n(); t++) {
            int[] x = all.now.trunks.get(t);
            packed |= x[SAID] == word || x[MEANT] == word ? 1 << t : 0;
        }
        return new int[] {one.length(), told.firm.get(word), within, anagrams, packed}[what];
    }

    int letter(int word, int i) {
        be(hasWord(word));
        be(i >= 0 && i < told.words.get(word).length());
        return told.words.get(word).charAt(i) - 96;
    }

    int trunk(int trunk, int what) {
        be(hasTrunk(trunk) && what >= 0 && what <= 7);
        int[] t = all.now.trunks.get(trunk);
        if (what == 7) {
            couples();
            return bestRow.get(trunk) == 99 ? NONE : bestRow.get(trunk);
        }
        return new int[] {t[SAID], t[MEANT], t[STRAP], t[GROWN], fullAt(t), blendOf(t).length(), t[TREATY]}[what];
    }

    int days(int many) {
        if (many < 1 || many > 20 || all.now.day + many > 999) {
            return refuse(1);
        }
        act();
        all.now = behind(all.now, many);
        return all.now.day;
    }

    int draw(int trunk, int strap) {
        be(hasTrunk(trunk));
        int[] t = all.now.trunks.get(trunk);
        if (strap < 0 || strap > 9 || strap == t[STRAP]) {
            return refuse(1);
        }
        act();
        int was = t[STRAP];
        t[STRAP] = strap;
        return was;
    }

    int pull(int trunk, int much) {
        be(hasTrunk(trunk));
        int[] t = all.now.trunks.get(trunk);
        if (much < 1 || much > 9 || t[GROWN] == 0 || isFull(t) || t[TREATY] == 1) {
            return refuse(1);
        }
        act();
        t[GROWN] = Math.max(0, t[GROWN] - much);
        return t[GROWN];
    }

    int turn(int trunk) {
        be(hasTrunk(trunk));
        act();
        return turned(all.now.trunks.get(trunk));
    }

    static int turned(int[] t) {
        int was = t[GROWN];
        int said = t[SAID];
        t[SAID] = t[MEANT];
        t[MEANT] = said;
        t[GROWN] = 0;
        return was;
    }

    int pack(int trunk, int half, int word) {
        be(hasTrunk(trunk) && half >= 0 && half <= 1 && hasWord(word));
        int[] t = all.now.trunks.get(trunk);
        int was = t[half];
        if (was == word) {
            return refuse(1);
        }
        act();
        t[half] = word;
        t[GROWN] = 0;
        return was;
    }

    int undo() {
        if (all.acts.isEmpty()) {
            return NONE;
        }
        all.now = all.acts.remove(all.acts.size() - 1);
        return all.acts.size();
    }

    int then(int trunk, int days, int what) {
        be(hasTrunk(trunk) && what >= 0 && what <= 3);
        fit(days >= 0 && days <= 60);
        int[] t = behind(all.now, days).trunks.get(trunk);
        int which = NONE;
        for (int w = words() - 1; w >= 0; w--) {
            boolean no = which != NONE
                && changes(blendOf(t), told.words.get(w)) > changes(blendOf(t), told.words.get(which));
            which = no ? which : w;
        }
        return new int[] {t[GROWN], blendOf(t).length(), which, changes(blendOf(t), told.words.get(which))}[what];
    }

    int blend(int trunk, int i, int days) {
        be(hasTrunk(trunk));
        fit(days >= 0 && days <= 60);
        String b = blendOf(behind(all.now, days).trunks.get(trunk));
        return i < 0 || i >= b.length() ? NONE : b.charAt(i) - 96;
    }

    int later(int days, int what) {
        be(what >= 0 && what <= 2);
        fit(days >= 0 && days <= 60);
        State s = behind(all.now, days);
        int bits = 0;
        int longest = NONE;
        int gained = 0;
        for (int t = 0; t < n(); t++) {
            int[] one = s.trunks.get(t);
            bits |= isFull(one) ? 1 << t : 0;
            if (longest == NONE || blendOf(one).length() > blendOf(s.trunks.get(longest)).length()) {
                longest = t;
            }
            gained += one[GROWN] - all.now.trunks.get(t)[GROWN];
        }
        return new int[] {bits, longest, gained}[what];
    }

    int full(int trunk) {
        be(hasTrunk(trunk));
        for (int d = 0; d <= 60; d++) {
            if (isFull(behind(all.now, d).trunks.get(trunk))) {
                return d;
            }
        }
        return NONE;
    }

    int read(int trunk, int word) {
        be(hasTrunk(trunk) && hasWord(word));
        for (int d = 0; d <= 60; d++) {
            if (blendOf(behind(all.now, d).trunks.get(trunk)).contains(told.words.get(word))) {
                return d;
            }
        }
        return NONE;
    }

    int alike(int trunk, int other) {
        be(hasTrunk(trunk) && hasTrunk(other));
        for (int d = 0; d <= 60 && trunk != other; d++) {
            State s = behind(all.now, d);
            if (blendOf(s.trunks.get(trunk)).equals(blendOf(s.trunks.get(other)))) {
                return d;
            }
        }
        return NONE;
    }

    int both(int word, int other, int what) {
        be(hasWord(word) && hasWord(other) && what >= 0 && what <= 2);
        String a = told.words.get(word);
        String b = told.words.get(other);
        return new int[] {overlap(a, b), changes(a, b), common(a, b)}[what];
    }

    int row(int i) {
        bestRow = null;
        bestLength = 0;
        tryRows(new ArrayList<>());
        be(i == NONE || i >= 0 && i < words());
        return i == NONE ? bestLength : bestRow.get(i);
    }

    int chain(int i) {
        bestRow = new ArrayList<>();
        tryChains(new ArrayList<>());
        be(i == NONE || i >= 0 && i < bestRow.size());
        return i == NONE ? bestRow.size() : bestRow.get(i);
    }

    int toDraw(int trunk, int days) {
        be(hasTrunk(trunk));
        fit(days >= 0 && days <= 60);
        int best = NONE;
        for (int s = 0; s <= 9; s++) {
            best = isFull(behind(with(trunk, s), days).trunks.get(trunk)) ? s : best;
        }
        return best;
    }

    int couples() {
        bestRow = null;
        bestLength = 0;
        int[] with = new int[n()];
        java.util.Arrays.fill(with, -1);
        pair(with, n() % 2);
        return bestLength;
    }

    /** Tries all that one can be with, 99 (none) too; compares whole rows at the end. */
    void pair(int[] with, int aloneLeft) {
        int one = 0;
        while (one < with.length && with[one] != -1) {
            one++;
        }
        if (one == with.length) {
            int cost = 0;
            List<Integer> row = new ArrayList<>();
            for (int t = 0; t < with.length; t++) {
                row.add(with[t]);
                if (with[t] != 99 && t < with[t]) {
                    cost += changes(blendOf(all.now.trunks.get(t)), blendOf(all.now.trunks.get(with[t])));
                }
            }
            if (bestRow == null || cost < bestLength || cost == bestLength && isAhead(row, bestRow)) {
                bestRow = row;
                bestLength = cost;
            }
            return;
        }
        for (int other = with.length - 1; other > one; other--) {
            if (with[other] == -1) {
                with[one] = other;
                with[other] = one;
                pair(with, aloneLeft);
                with[other] = -1;
            }
        }
        if (aloneLeft > 0) {
            with[one] = 99;
            pair(with, aloneLeft - 1);
        }
        with[one] = -1;
    }

    static boolean isAhead(List<Integer> a, List<Integer> b) {
        for (int i = 0; i < a.size(); i++) {
            if (!a.get(i).equals(b.get(i))) {
                return a.get(i) < b.get(i);
            }
        }
        return false;
    }

    int see(int trunk, int days, int letters) {
        be(hasTrunk(trunk));
        if (all.seen.size() == 8 || days < 0 || days > 20 || letters < 0 || letters > 16) {
            return refuse(2);
        }
        all.seen.add(new int[] {trunk, days, letters});
        return all.seen.size();
    }

    boolean allSeen(State from) {
        for (int[] s : all.seen) {
            if (blendOf(behind(from, s[1]).trunks.get(s[0])).length() != s[2]) {
                return false;
            }
        }
        return true;
    }

    List<Integer> looseOnes() {
        List<Integer> ones = new ArrayList<>();
        for (int t = 0; t < n(); t++) {
            for (int s = 0; s <= 9; s++) {
                if (s != all.now.trunks.get(t)[STRAP] && allSeen(with(t, s))) {
                    ones.add(10 * t + s);
                }
            }
        }
        return ones;
    }

    int loose(int what) {
        be(what >= 0 && what <= 2);
        List<Integer> ones = looseOnes();
        return new int[] {ones.size(), ones.isEmpty() ? NONE : ones.get(0), allSeen(all.now) ? 1 : 0}[what];
    }

    int look(int what) {
        be(what == 0 || what == 1);
        int which = NONE;
        int most = 0;
        for (int t = 0; t < n(); t++) {
            Set<Integer> numbers = new HashSet<>();
            for (int one : looseOnes()) {
                numbers.add(behind(with(one / 10, one % 10), 6).trunks.get(t)[GROWN]);
            }
            if (numbers.size() > most) {
                most = numbers.size();
                which = t;
            }
        }
        return what == 0 ? which : most;
    }

    void forget() {
        all.seen.clear();
    }

    int seasons(int trunk, int days, int tenths) {
        be(hasTrunk(trunk));
        fit(days >= 1 && days <= 5 && tenths >= 0 && tenths <= 10);
        return chance(all.now.trunks.get(trunk).clone(), all.now.day, days, tenths);
    }

    int chance(int[] t, int day, int left, int tenths) {
        if (left == 0) {
            return isFull(t) ? 1 : 0;
        }
        int[] hot = t.clone();
        grow(hot, day, 9);
        int[] cold = t.clone();
        grow(cold, day, 0);
        return tenths * chance(hot, day + 1, left - 1, tenths) + (10 - tenths) * chance(cold, day + 1, left - 1, tenths);
    }

    int gain(int one, int two, int a, int b) {
        State s = all.now.copy();
        if (a == 1) {
            s.trunks.get(one)[STRAP] = 9;
        }
        if (b == 1) {
            s.trunks.get(two)[STRAP] = 9;
        }
        s = behind(s, 4);
        return blendOf(s.trunks.get(one)).length() - blendOf(s.trunks.get(two)).length() - a;
    }

    int game(int trunk, int other, int what) {
        be(hasTrunk(trunk) && hasTrunk(other) && what >= 0 && what <= 1);
        fit(trunk != other);
        int many = 0;
        int first = NONE;
        for (int couple : new int[] {11, 10, 1, 0}) {
            int a = couple / 10;
            int b = couple % 10;
            if (gain(trunk, other, 1 - a, b) <= gain(trunk, other, a, b)
                && gain(other, trunk, 1 - b, a) <= gain(other, trunk, b, a)) {
                many++;
                first = couple;
            }
        }
        return what == 0 ? many : first;
    }

    int seed;

    int dice(int n) {
        seed = (int) (seed * 1103515245L + 12345L);
        int bits = 0;
        for (int b = 0; b <= 14; b++) {
            bits += (seed >> 16 + b & 1) << b;
        }
        return bits % n;
    }

    int years(int seed, int n, int what) {
        be(what >= 0 && what <= 2);
        fit(n >= 0 && n <= 60);
        this.seed = seed;
        State s = all.now.copy();
        int often = 0;
        for (int i = 0; i < n; i++) {
            int kind = dice(6);
            if (kind < 3 && n() > 0) {
                int[] t = s.trunks.get(dice(n()));
                if (kind == 0) {
                    turned(t);
                } else if (kind == 1) {
                    t[STRAP] = dice(10);
                } else {
                    int word = dice(words());
                    t[dice(2)] = word;
                    t[GROWN] = 0;
                }
            }
            State next = behind(s, 1);
            for (int t = 0; t < n(); t++) {
                often += !isFull(s.trunks.get(t)) && isFull(next.trunks.get(t)) ? 1 : 0;
            }
            s = next;
        }
        int full = 0;
        int letters = 0;
        for (int[] t : s.trunks) {
            full += isFull(t) ? 1 : 0;
            letters += blendOf(t).length();
        }
        return new int[] {often, full, letters}[what];
    }

    void image() {
        image = all.copy();
    }

    boolean restore() {
        if (image == null) {
            return false;
        }
        all = image.copy();
        return true;
    }
}
