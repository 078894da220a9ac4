import java.util.function.IntUnaryOperator;

/** A test for each sentence on WORDS among each other, and on COUPLES, that names a boundary case (6, 21 to 23, 25). */
public final class BoundaryWordTests {
    private static final String SMOKE = "word smoke 3;word fog 5;word keg 1;word gof 2;"
        + "trunk 0 1 4;treaty 2 1 2;trunk 1 3 9;heat 6 3;";

    public static void main(String[] args) {
        two();
        rows();
        couples();
        Check.end();
    }

    private static void two() {
        Check.sentence("OVERLAP of one WORD with another one, or with itself: the most LETTERS", BoundaryWordTests::mostLetters);
        Check.sentence("(at most 1 fewer than the lesser of both has; 0: none)", BoundaryWordTests::oneFewer);
        Check.sentence("CHANGES from one to another one (0 to itself)", BoundaryWordTests::changes);
        Check.sentence("COMMON: .. (others may be between; of one with itself all)", BoundaryWordTests::common);
        Check.sentence("WITHIN: .. side by side, in their order (bits; itself, too)", BoundaryWordTests::within);
        Check.sentence("ANAGRAMS: .. in any order (bits; itself, too)", BoundaryWordTests::anagrams);
        Check.sentence("both: NoSuchElementException: also another what.", BoundaryWordTests::bothOfNone);
    }

    private static void rows() {
        Check.sentence("ONE ROW: all WORDS one behind the other, each once", BoundaryWordTests::rowOfOneAndEight);
        Check.sentence("by the OVERLAP alone (be one WITHIN another one or not)", BoundaryWordTests::rowOfOneWithin);
        Check.sentence("fewest LETTERS: how many; the i-th WORD: of like ones the first row", BoundaryWordTests::firstRow);
        Check.sentence("ONE ROW: how many LETTERS (i NONE; 0 without WORDS)", BoundaryWordTests::rowOfNone);
        Check.sentence("row: NoSuchElementException: there is none.", BoundaryWordTests::noSuchInRow);
        Check.sentence("A CHAIN: the longest row of WORDS, each once at most", BoundaryWordTests::chainOfOneAndEight);
        Check.sentence("of as long ones the first row (by numbers of WORDS)", BoundaryWordTests::firstChain);
        Check.sentence("A CHAIN: how many (i NONE; 0 without WORDS)", BoundaryWordTests::chainOfNone);
        Check.sentence("chain: NoSuchElementException: there is none.", BoundaryWordTests::noSuchInChain);
    }

    private static void couples() {
        Check.sentence("COUPLES: of TRUNKS the most couples, each in one", BoundaryWordTests::mostCouples);
        Check.sentence("so that both BLENDS now are fewest CHANGES from each other, all together", BoundaryWordTests::fewestAll);
        Check.sentence("of like ones the first row (by TRUNKS: the other one; with none behind all)",
            BoundaryWordTests::firstCouples);
        Check.sentence("7 with which it is one of COUPLES (NONE)", BoundaryWordTests::withNone);
    }

    // ---- two WORDS

    private static void mostLetters() {
        GrownWords x = Check.told("word abab 1;word ababa 1;word bababa 1;word b 1;word cab 1;word aaaaaaaa 1;word aaaaaaab 1;");
        int[][] overlaps = {
            {2, 2, 3, 0, 0, 0, 0}, {3, 3, 4, 0, 0, 1, 1}, {3, 3, 4, 0, 0, 1, 1}, {0, 0, 0, 0, 0, 0, 0},
            {2, 2, 1, 0, 0, 0, 0}, {1, 1, 0, 0, 0, 7, 7}, {2, 2, 1, 0, 0, 0, 0}
        };
        for (int one = 0; one < 7; one++) {
            for (int other = 0; other < 7; other++) {
                int w = one;
                int v = other;
                Check.due(overlaps[one][other], () -> x.both(w, v, 0));
            }
        }
    }

    private static void oneFewer() {
        // Of 1 LETTER none; of 2 one; of 8 seven; never all of the lesser.
        GrownWords x = Check.told("word a 1;word aa 1;word aaaaaaaa 1;word aaaaaaa 1;word ab 1;word xab 1;word abx 1;");
        int[][] overlaps = {
            {0, 0, 0, 0, 0, 0, 0}, {0, 1, 1, 1, 1, 0, 1}, {0, 1, 7, 6, 1, 0, 1}, {0, 1, 6, 6, 1, 0, 1},
            {0, 0, 0, 0, 0, 0, 0}, {0, 0, 0, 0, 0, 0, 2}, {0, 0, 0, 0, 0, 1, 0}
        };
        for (int one = 0; one < 7; one++) {
            for (int other = 0; other < 7; other++) {
                int w = one;
                int v = other;
                Check.due(overlaps[one][other], () -> x.both(w, v, 0));
            }
        }
    }

    private static void changes() {
        GrownWords x = Check.told("word abcdefgh 1;word a 1;word ijklmnop 1;word habcdefg 1;word abcdefg 1;word z 1;word aecdbfgh 1;");
        for (int word = 0; word < 7; word++) {
            int w = word;
            Check.due(0, () -> x.both(w, w, 1));
        }
        int[][] cases = {{0, 1, 7}, {0, 2, 8}, {0, 3, 2}, {0, 4, 1}, {0, 5, 8}, {1, 5, 1}, {0, 6, 2}, {1, 2, 8}, {3, 4, 1}};
        for (int[] one : cases) {
            Check.due(one[2], () -> x.both(one[0], one[1], 1));
            Check.due(one[2], () -> x.both(one[1], one[0], 1));
        }
    }

    private static void common() {
        GrownWords x = Check.told("word abcdefgh 1;word a 1;word ijklmnop 1;word hgfedcba 1;word adgxyzh 1;word h 1;word aaaaaaaa 1;");
        int[] sizes = {8, 1, 8, 8, 7, 1, 8};
        for (int word = 0; word < 7; word++) {
            int w = word;
            Check.due(sizes[w], () -> x.both(w, w, 2));
        }
        int[][] cases = {{0, 1, 1}, {0, 2, 0}, {0, 3, 1}, {0, 4, 4}, {0, 5, 1}, {1, 5, 0}, {6, 0, 1}, {6, 1, 1}, {3, 4, 1}};
        for (int[] one : cases) {
            Check.due(one[2], () -> x.both(one[0], one[1], 2));
            // What was asked ahead makes no difference.
            x.both(2, one[1], 1);
            Check.due(one[2], () -> x.both(one[1], one[0], 2));
        }
    }

    private static void within() {
        GrownWords x = Check.told("word abcdefgh 1;word a 1;word h 1;word abcdefg 1;word bcdefgh 1;word ace 1;word ba 1;word de 1;");
        int[] bits = {1, 1 | 2 | 8 | 32 | 64, 1 | 4 | 16, 1 | 8, 1 | 16, 32, 64, 1 | 8 | 16 | 128};
        for (int word = 0; word < 8; word++) {
            int w = word;
            Check.due(bits[w], () -> x.word(w, 2));
        }
        GrownWords one = Check.told("word aba 1;");
        Check.due(1, () -> one.word(0, 2));
        // Behind a beginning that is like it: aab in aaab.
        GrownWords y = Check.told("word aab 1;word aaab 1;word abaab 1;word aba 1;");
        Check.due(7, () -> y.word(0, 2));
        Check.due(2, () -> y.word(1, 2));
        Check.due(12, () -> y.word(3, 2));
    }

    private static void anagrams() {
        GrownWords x = Check.told("word az 1;word za 1;word aaz 1;word zza 1;word zaz 1;word a 1;word z 1;word abcdefgh 1;");
        int[] bits = {3, 3, 4, 8 | 16, 8 | 16, 32, 64, 128};
        for (int word = 0; word < 8; word++) {
            int w = word;
            Check.due(bits[w], () -> x.word(w, 3));
        }
        GrownWords all = Check.told("word abcd 1;word abdc 1;word acbd 1;word acdb 1;word adbc 1;word adcb 1;word bacd 1;word dcba 1;");
        Check.due(255, () -> all.word(0, 3));
        Check.due(255, () -> all.word(7, 3));
    }

    private static void bothOfNone() {
        int[][] wrong = {{4, 0, 0}, {0, 4, 0}, {-1, 0, 0}, {0, -1, 0}, {0, 0, 3}, {0, 0, -1}, {4, 4, 3}};
        for (int[] one : wrong) {
            Check.leaves(Check::rich, Check.NO_SUCH, Check.NO_STATUS, x -> x.both(one[0], one[1], one[2]));
        }
        GrownWords x = Check.told(SMOKE);
        for (int far : Check.far()) {
            Check.due(Check.NO_SUCH, () -> x.both(far, 0, 0));
            Check.due(Check.NO_SUCH, () -> x.both(0, far, 0));
            Check.due(Check.NO_SUCH, () -> x.both(0, 0, far));
        }
    }

    // ---- rows of WORDS

    private static void isRow(int size, int[] wants, IntUnaryOperator row) {
        Check.due(size, () -> row.applyAsInt(-1));
        for (int i = 0; i < wants.length; i++) {
            int place = i;
            Check.due(wants[i], () -> row.applyAsInt(place));
        }
        Check.due(Check.NO_SUCH, () -> row.applyAsInt(wants.length));
    }

    private static void rowOfOneAndEight() {
        GrownWords one = Check.told("word abcdefgh 1;");
        isRow(8, new int[] {0}, one::row);
        GrownWords two = Check.told("word bc 1;word ab 1;");
        isRow(3, new int[] {1, 0}, two::row);
        GrownWords eight = Check.told("word ha 1;word gh 1;word fg 1;word ef 1;word de 1;word cd 1;word bc 1;word ab 1;");
        // A ring: it may begin anywhere; the first one is the least.
        isRow(9, new int[] {0, 7, 6, 5, 4, 3, 2, 1}, eight::row);
        // Only one of all that end with a can stand ahead of ab.
        GrownWords ahead = Check.told("word ab 1;word ca 1;word da 1;word ea 1;word fa 1;word ga 1;word ha 1;word ia 1;");
        isRow(15, new int[] {1, 0, 2, 3, 4, 5, 6, 7}, ahead::row);
        isRow(2, new int[] {1, 0}, ahead::chain);
        // The fewest and the most LETTERS that there can be.
        GrownWords all = Check.told("word abcdefgh 1;word ijklmnop 1;word bcdefghi 1;word cdefghij 1;word defghijk 1;"
            + "word efghijkl 1;word fghijklm 1;word ghijklmn 1;");
        isRow(16, new int[] {0, 2, 3, 4, 5, 6, 7, 1}, all::row);
        GrownWords none = Check.told("word aaaaaaab 1;word caaaaaad 1;word eaaaaaaf 1;word gaaaaaah 1;word iaaaaaaj 1;"
            + "word kaaaaaal 1;word maaaaaan 1;word oaaaaaap 1;");
        isRow(64, new int[] {0, 1, 2, 3, 4, 5, 6, 7}, none::row);
    }

    private static void rowOfOneWithin() {
        // b WITHIN abc, and ab: whole ones all the same; only the OVERLAP counts.
        GrownWords x = Check.told("word abc 1;word b 1;word ab 1;");
        isRow(6, new int[] {0, 1, 2}, x::row);
        GrownWords y = Check.told("word aba 1;word ba 1;word ab 1;");
        // All of ba is the end of aba, but all of it is no OVERLAP.
        isRow(5, new int[] {0, 2, 1}, y::row);
    }

    private static void firstRow() {
        // Nothing overlaps: all rows are alike.
        GrownWords x = Check.told("word ab 1;word cd 1;word ef 1;word gh 1;");
        isRow(8, new int[] {0, 1, 2, 3}, x::row);
        // One couple overlaps: it stands as far ahead as its number lets it.
        GrownWords y = Check.told("word bc 1;word xy 1;word ab 1;");
        isRow(5, new int[] {1, 2, 0}, y::row);
        GrownWords z = Check.told("word ab 1;word xy 1;word bc 1;");
        isRow(5, new int[] {0, 2, 1}, z::row);
        // Two ways to have as few: bc behind ab, or behind db.
        GrownWords w = Check.told("word bc 1;word db 1;word ab 1;");
        isRow(5, new int[] {1, 0, 2}, w::row);
    }

    private static void rowOfNone() {
        GrownWords none = new GrownWords();
        Check.due(0, () -> none.row(-1));
        Check.due(Check.NO_SUCH, () -> none.row(0));
        GrownWords x = Check.told(SMOKE);
        Check.due(10, () -> x.row(GrownWords.NONE));
        Check.due(0, () -> x.baggage(0));
        Check.due(0, () -> x.row(-1));
        Check.due(Check.NO_SUCH, () -> x.row(0));
    }

    private static void noSuchInRow() {
        int[] wrong = {4, -2, 8, Integer.MAX_VALUE, Integer.MIN_VALUE};
        for (int i : wrong) {
            Check.leaves(Check::rich, Check.NO_SUCH, Check.NO_STATUS, x -> x.row(i));
        }
        GrownWords x = Check.told(SMOKE);
        for (int far : Check.far()) {
            Check.due(Check.NO_SUCH, () -> x.row(far));
        }
        Check.due(1, () -> x.row(3));
    }

    private static void chainOfOneAndEight() {
        GrownWords one = Check.told("word ab 1;");
        isRow(1, new int[] {0}, one::chain);
        // Also one that begins with its own last LETTER stands there once.
        GrownWords same = Check.told("word aba 1;");
        isRow(1, new int[] {0}, same::chain);
        GrownWords letters = Check.told("word a 1;word aa 1;word aba 1;");
        isRow(3, new int[] {0, 1, 2}, letters::chain);
        GrownWords eight = Check.told("word hi 1;word gh 1;word fg 1;word ef 1;word de 1;word cd 1;word bc 1;word ab 1;");
        isRow(8, new int[] {7, 6, 5, 4, 3, 2, 1, 0}, eight::chain);
        GrownWords none = Check.told("word ab 1;word cd 1;word ef 1;");
        isRow(1, new int[] {0}, none::chain);
    }

    private static void firstChain() {
        // A ring of three: from the least one.
        GrownWords x = Check.told("word ca 1;word ab 1;word bc 1;");
        isRow(3, new int[] {0, 1, 2}, x::chain);
        // As long: 0 1, 0 2, 3 ..; longer is better than ahead.
        GrownWords y = Check.told("word ab 1;word bc 1;word bd 1;");
        isRow(2, new int[] {0, 1}, y::chain);
        GrownWords z = Check.told("word ab 1;word bc 1;word bd 1;word de 1;");
        isRow(3, new int[] {0, 2, 3}, z::chain);
        GrownWords w = Check.told("word xy 1;word zz 1;word ab 1;word bc 1;");
        isRow(2, new int[] {2, 3}, w::chain);
    }

    private static void chainOfNone() {
        GrownWords none = new GrownWords();
        Check.due(0, () -> none.chain(-1));
        Check.due(Check.NO_SUCH, () -> none.chain(0));
        GrownWords x = Check.told(SMOKE);
        Check.due(3, () -> x.chain(GrownWords.NONE));
        Check.due(0, () -> x.baggage(0));
        Check.due(0, () -> x.chain(-1));
        Check.due(Check.NO_SUCH, () -> x.chain(0));
    }

    private static void noSuchInChain() {
        // Of 4 WORDS 3 stand in it.
        int[] wrong = {3, 4, -2, Integer.MAX_VALUE, Integer.MIN_VALUE};
        for (int i : wrong) {
            Check.leaves(Check::rich, Check.NO_SUCH, Check.NO_STATUS, x -> x.chain(i));
        }
        GrownWords x = Check.told(SMOKE);
        for (int far : Check.far()) {
            Check.due(Check.NO_SUCH, () -> x.chain(far));
        }
        Check.due(1, () -> x.chain(2));
    }

    // ---- COUPLES

    private static void areCouples(GrownWords x, int total, int... with) {
        Check.due(total, () -> x.couples());
        for (int t = 0; t < with.length; t++) {
            int trunk = t;
            Check.due(with[t], () -> x.trunk(trunk, 7));
        }
    }

    private static void mostCouples() {
        areCouples(new GrownWords(), 0);
        areCouples(Check.told("word a 1;trunk 0 0 1;"), 0, -1);
        String words = "word a 1;word bb 1;word abcdefgh 1;word ijklmnop 1;";
        // aa, bbbb: a couple, whatever it costs.
        areCouples(Check.told(words + "trunk 0 0 1;trunk 1 1 1;"), 4, 1, 0);
        areCouples(Check.told(words + "trunk 2 2 1;trunk 3 3 1;"), 16, 1, 0);
        areCouples(Check.told(words + "trunk 0 0 1;trunk 2 2 1;trunk 0 0 1;"), 0, 2, -1, 0);
        areCouples(Check.told(words + "trunk 0 0 1;trunk 0 0 1;trunk 2 2 1;trunk 3 3 1;"), 16, 1, 0, 3, 2);
        areCouples(Check.told("word a 1;" + Check.times(5, "treaty 0 0 1;")), 0, 1, 0, 3, 2, -1);
        areCouples(Check.told("word a 1;" + Check.times(6, "treaty 0 0 1;")), 0, 1, 0, 3, 2, 5, 4);
        // Six of three kinds: each with its like, the first with the last.
        areCouples(Check.told(words + "trunk 0 0 1;trunk 2 2 1;trunk 3 3 1;trunk 3 3 1;trunk 2 2 1;trunk 0 0 1;"), 0,
            5, 4, 3, 2, 1, 0);
    }

    private static void fewestAll() {
        // aa, ab, bb, ba: 1 + 1 by aa ab, bb ba; aa bb would be 2 alone.
        String words = "word a 1;word b 1;word c 1;";
        areCouples(Check.told(words + "trunk 0 0 1;trunk 1 1 1;trunk 0 1 1;trunk 1 0 1;"), 2, 2, 3, 0, 1);
        // The nearest two are no couple, if all together are fewer: ab ab, then aa cc are 2; aa ab, ab cc are 3.
        areCouples(Check.told(words + "trunk 0 0 1;trunk 0 1 1;trunk 0 1 1;trunk 2 2 1;"), 2, 3, 2, 1, 0);
        // aa, bb, abab, bbbbbb, ab: 2 and 1; aa ab, bb abab would be as few.
        String five = "word a 1;word b 1;word ab 1;word bbb 1;trunk 0 0 9;trunk 1 1 9;trunk 2 2 9;trunk 3 3 9;trunk 0 1 9;";
        areCouples(Check.told(five), 3, 2, 4, 0, -1, 1);
        // And aab: 1, 4 and 1.
        areCouples(Check.told(five + "trunk 0 2 9;"), 6, 4, 3, 5, 1, 0, 2);
        // The BLENDS of now: abab and bb, aab and bb, ab and bb.
        GrownWords x = Check.told("word ab 1;word b 1;trunk 0 0 4;trunk 1 1 9;");
        areCouples(x, 2, 1, 0);
        x.days(1);
        Check.due(2, () -> x.couples());
        x.days(1);
        Check.due(1, () -> x.couples());
    }

    private static void firstCouples() {
        String a = "word a 1;word b 1;word bbb 1;";
        // Three alike: none behind all, so the last one has none.
        areCouples(Check.told(a + Check.times(3, "trunk 0 0 1;")), 0, 1, 0, -1);
        // 0 with 2, and 1 with 2 are as near: the first one has one.
        areCouples(Check.told(a + "trunk 0 0 1;trunk 1 1 1;trunk 0 1 1;"), 1, 2, -1, 0);
        // Only 1 with 2: the first one has none.
        areCouples(Check.told(a + "trunk 2 2 1;trunk 0 0 1;trunk 0 0 1;"), 0, -1, 2, 1);
        // Four alike, two of two kinds.
        areCouples(Check.told(a + Check.times(4, "trunk 0 0 1;")), 0, 1, 0, 3, 2);
        areCouples(Check.told(a + "trunk 0 0 1;trunk 1 1 1;trunk 1 1 1;trunk 0 0 1;"), 0, 3, 2, 1, 0);
        // Five: whose one has none is the last that can.
        areCouples(Check.told(a + "trunk 0 0 1;trunk 1 1 1;trunk 1 1 1;trunk 0 0 1;trunk 0 0 1;"), 0, 3, 2, 1, 0, -1);
        areCouples(Check.told(a + "trunk 0 0 1;trunk 1 1 1;trunk 1 1 1;trunk 1 1 1;trunk 0 0 1;"), 0, 4, 2, 1, -1, 0);
    }

    private static void withNone() {
        GrownWords x = Check.told("word a 1;word b 1;trunk 0 0 9;trunk 1 1 9;trunk 0 1 9;");
        areCouples(x, 1, 2, -1, 0);
        x.pack(1, 0, 0);
        // aa, ab, ab.
        areCouples(x, 0, -1, 2, 1);
        x.pack(0, 1, 1);
        areCouples(x, 0, 1, 0, -1);
        x.undo();
        areCouples(x, 0, -1, 2, 1);
        // Of another text with fewer TRUNKS none is left.
        Check.due(0, () -> Check.tell(x, "word a 1;trunk 0 0 1;"));
        areCouples(x, 0, -1);
    }
}
