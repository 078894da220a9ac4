import java.util.NoSuchElementException;

/** Promise by promise: ordinary calls, the edges that the document names, wrong calls; answers reckoned by hand. */
public final class PromiseTests {
    private interface Call {
        int answer();
    }

    /** The text of the shared runs: smoke fog keg gof; smoke+fog, keg+fog (a treaty), fog+gof. */
    private static final String SMOKE = "word smoke 3;word fog 5;word keg 1;word gof 2;"
        + "trunk 0 1 4;treaty 2 1 2;trunk 1 3 9;heat 6 3;";

    private static final int NO_SUCH = -1001;
    private static final int WRONG = -1002;

    private static int passed = 0;
    private static int failed = 0;
    private static int promise = 0;
    private static int check = 0;

    public static void main(String[] args) {
        newObject();
        feed();
        baggage();
        grammar();
        limits();
        expressions();
        fault();
        count();
        word();
        letter();
        trunk();
        days();
        growth();
        draw();
        pull();
        turn();
        pack();
        undo();
        then();
        blend();
        later();
        full();
        read();
        alike();
        both();
        row();
        chain();
        toDraw();
        couples();
        see();
        loose();
        look();
        forget();
        seasons();
        game();
        years();
        image();
        restore();
        System.out.println(passed + " passed, " + failed + " failed");
        if (failed > 0) {
            System.exit(1);
        }
    }

    // ---- how it is checked

    private static void promise(int number) {
        promise = number;
        check = 0;
    }

    private static void due(int want, Call call) {
        check++;
        int got;
        try {
            got = call.answer();
        } catch (NoSuchElementException e) {
            got = NO_SUCH;
        } catch (IllegalArgumentException e) {
            got = WRONG;
        }
        if (got == want) {
            passed++;
        } else {
            failed++;
            System.out.println("promise " + promise + ", check " + check + ": answered " + got + ", due is " + want);
        }
    }

    private static void feedAll(GrownWords x, String text) {
        StringBuilder s = new StringBuilder(text);
        while (s.length() % 20 != 0) {
            s.append('#');
        }
        for (int i = 0; i < s.length(); i += 20) {
            x.feed(four(s, i), four(s, i + 4), four(s, i + 8), four(s, i + 12), four(s, i + 16));
        }
    }

    private static int four(StringBuilder s, int i) {
        return s.charAt(i) << 24 | s.charAt(i + 1) << 16 | s.charAt(i + 2) << 8 | s.charAt(i + 3);
    }

    private static int tell(GrownWords x, String text) {
        feedAll(x, text);
        return x.baggage(text.length());
    }

    private static GrownWords told(String text) {
        GrownWords x = new GrownWords();
        due(0, () -> tell(x, text));
        return x;
    }

    /** The FAULT at the place of the first @, which is no part of the text; 0: none. */
    private static void faultAt(int kind, String marked) {
        int place = marked.indexOf('@');
        String text = place < 0 ? marked : marked.substring(0, place) + marked.substring(place + 1);
        GrownWords x = new GrownWords();
        due(kind, () -> tell(x, text));
        due(place, () -> x.fault());
    }

    private static String times(int n, String s) {
        return s.repeat(n);
    }

    /** A text with one trunk of two words of 8 letters; no letter of one is a letter of the other. */
    private static String long2(String more) {
        return "word abcdefgh 2;word ijklmnop 7;trunk 0 1 4;" + more;
    }

    /** How much the trunk of long2 grows on its first day by an EXPR: 0 to 3. */
    private static void grows(int want, String expr) {
        GrownWords x = told(long2("grows " + expr + ";"));
        due(want, () -> x.then(0, 1, 0));
    }

    // ---- Promise 1 to 8

    private static void newObject() {
        promise(1);
        GrownWords x = new GrownWords();
        due(-1, () -> GrownWords.NONE);
        int[] counts = {0, 0, 0, 5, 0, 0, 0, 0, 0, 0, 0, 0, 0};
        for (int what = 0; what < counts.length; what++) {
            int one = what;
            due(counts[one], () -> x.count(one));
        }
        due(NO_SUCH, () -> x.word(0, 0));
        due(NO_SUCH, () -> x.trunk(0, 0));
        due(-1, () -> x.fault());
        due(0, () -> x.row(-1));
        due(0, () -> x.chain(-1));
        due(0, () -> x.couples());
        due(-1, () -> x.undo());
        due(0, () -> x.restore() ? 1 : 0);
        due(20, () -> x.days(20));
        due(1, () -> x.count(7));
    }

    private static void feed() {
        promise(2);
        GrownWords x = new GrownWords();
        // "word abcdefg 7;     " with the highest byte of each number first.
        due(20, () -> x.feed(0x776f7264, 0x20616263, 0x64656667, 0x20373b20, 0x20202020));
        due(20, () -> x.count(9));
        due(0, () -> x.baggage(20));
        due(7, () -> x.letter(0, 6));
        due(0, () -> x.count(9));
        GrownWords y = new GrownWords();
        for (int i = 1; i <= 35; i++) {
            int many = 20 * i;
            due(many, () -> y.feed(0x20202020, 0x20202020, 0x0a0a0a0a, 0x20202020, 0x20202020));
        }
        due(-1, () -> y.feed(0, 0, 0, 0, 0));
        due(700, () -> y.count(9));
        due(0, () -> y.count(10));
        due(0, () -> y.baggage(700));
        due(20, () -> y.feed(-1, -1, -1, -1, -1));
        due(1, () -> y.baggage(20));
    }

    private static void baggage() {
        promise(3);
        GrownWords x = told(SMOKE);
        due(4, () -> x.count(0));
        due(3, () -> x.count(1));
        due(WRONG, () -> x.baggage(1));
        due(WRONG, () -> x.baggage(-1));
        x.days(3);
        x.see(0, 1, 7);
        x.image();
        feedAll(x, "word");
        due(WRONG, () -> x.baggage(21));
        due(20, () -> x.count(9));
        due(0, () -> x.count(10));
        // With a FAULT all else stays: but the tape is empty, and STATUS 0 is one more.
        due(1, () -> x.baggage(4));
        due(0, () -> x.count(9));
        due(1, () -> x.count(10));
        due(3, () -> x.count(2));
        due(1, () -> x.count(7));
        due(1, () -> x.count(8));
        due(2, () -> x.trunk(0, 3));
        due(4, () -> x.count(0));
        due(1, () -> x.restore() ? 1 : 0);
        due(0, () -> x.count(10));
        due(2, () -> tell(x, "heat 1 2 3;heat 3;heat;") - 3);
        due(1, () -> x.count(10));
        // All anew, STATUS stays.
        x.days(0);
        x.see(0, 0, 99);
        due(0, () -> tell(x, "word ab 1;trunk 0 0 5;"));
        due(1, () -> x.count(0));
        due(1, () -> x.count(1));
        due(0, () -> x.count(2));
        due(5, () -> x.count(3));
        due(0, () -> x.count(5));
        due(0, () -> x.count(7));
        due(0, () -> x.count(8));
        due(0, () -> x.trunk(0, 3));
        due(1, () -> x.count(10));
        due(1, () -> x.count(11));
        due(1, () -> x.count(12));
        due(-1, () -> x.undo());
        due(0, () -> x.restore() ? 1 : 0);
        // An empty text is BAGGAGE, too.
        due(0, () -> x.baggage(0));
        due(0, () -> x.count(0));
        due(0, () -> x.count(1));
    }

    private static void grammar() {
        promise(3);
        faultAt(0, "");
        faultAt(0, " \n ");
        faultAt(0, "word\nab\n0001;word b9;");
        faultAt(0, "word word 1;word heat 2;word not 3;trunk 0 2 0;heat 0 9;grows heat;");
        faultAt(1, "@x");
        faultAt(1, "@words a 1;");
        faultAt(1, "@;");
        faultAt(1, "@xord a 1;");
        faultAt(1, "@worx a 1;");
        faultAt(1, "word a 1;@grunk 0 0 1;");
        faultAt(1, "word a 1;@trunks 0 0 1;");
        faultAt(1, "word a 1;@creaty 0 0 1;");
        faultAt(1, "@meat 1;");
        faultAt(1, "@grow 1;");
        faultAt(1, "@1");
        faultAt(1, "  @#");
        faultAt(1, "@Word a 1;");
        faultAt(1, "word\t".replace("\t", "@\t"));
        faultAt(1, "@\u00e4");
        faultAt(1, "word@");
        faultAt(1, "word  @");
        faultAt(1, "word @1 2;");
        faultAt(1, "word a@");
        faultAt(1, "word a @b;");
        faultAt(1, "word a @;");
        faultAt(2, "word a @10;");
        faultAt(2, "word a @12345;");
        faultAt(1, "word a 1@");
        faultAt(1, "word a 1 @2;");
        faultAt(1, "word a 1 @12345;");
        faultAt(1, "word a 1 @word b 1;");
        faultAt(2, "word @abcdefghi 1;");
        faultAt(0, "word abcdefgh 1;");
        faultAt(4, "word ab 1;word abc 1;word @ab 1;");
        faultAt(3, "trunk @0 0 0;word a 1;");
        faultAt(3, "word a 1;trunk 0 @1 0;");
        faultAt(3, "word a 1;trunk @9 0 0;");
        faultAt(2, "word a 1;trunk @00000 0 0;");
        faultAt(0, "word a 1;trunk 0000 0 0;");
        faultAt(1, "word a 1;trunk @a 0 0;");
        faultAt(1, "word a 1;trunk 0 @; 0;");
        faultAt(1, "word a 1;trunk 0 0 @;");
        faultAt(2, "word a 1;treaty 0 0 @10;");
        faultAt(2, "word a 1;treaty 0 0 @00001;");
        faultAt(1, "word a 1;treaty 0 0 1 @1;");
        faultAt(1, "heat @;");
        faultAt(1, "heat 1 @a;");
        faultAt(2, "heat 1 @10;");
        faultAt(2, "heat 1 @99999;");
        faultAt(1, "heat 1 2@");
        faultAt(5, "heat 1;@heat 2;");
        faultAt(5, "grows 1;@grows 2;");
        faultAt(1, "grows 1 @grows 2;");
    }

    private static void limits() {
        promise(3);
        String words = "";
        for (int w = 0; w < 8; w++) {
            words += "word " + (char) ('a' + w) + " 1;";
        }
        faultAt(0, words);
        faultAt(2, words + "@word i 1;");
        faultAt(2, words + "@word");
        faultAt(1, words + "@words i 1;");
        String trunks = "word a 1;" + times(3, "trunk 0 0 1;treaty 0 0 2;");
        faultAt(0, trunks + "word b 2;");
        faultAt(2, trunks + "@trunk 0 0 1;");
        faultAt(2, trunks + "@treaty 5 0 1;");
        faultAt(0, "heat 1 2 3 4 5 6 7 8;");
        faultAt(2, "heat 1 2 3 4 5 6 7 8 @9;");
        faultAt(2, "heat 1 2 3 4 5 6 7 8 @99999;");
        faultAt(1, "heat 1 2 3 4 5 6 7 8 @a;");
    }

    private static void expressions() {
        promise(3);
        faultAt(1, "grows @;");
        faultAt(1, "grows @");
        faultAt(1, "grows 1@");
        faultAt(1, "grows 1 @2;");
        faultAt(1, "grows 1 @strap;");
        faultAt(1, "grows 1 @not;");
        faultAt(1, "grows @);");
        faultAt(1, "grows 1@);");
        faultAt(1, "grows (@);");
        faultAt(1, "grows (1@;");
        faultAt(1, "grows @+1;");
        faultAt(1, "grows 1+@+1;");
        faultAt(1, "grows 1 < 2 @< 3;");
        faultAt(1, "grows 1 = 2+1 @< 3;");
        faultAt(1, "grows not 1 = 2 @= 3;");
        faultAt(0, "grows 1 = 2 and 3 < 4 or not 5 = 6;");
        faultAt(0, "grows (1 = 2) = (3 < 4) ;");
        faultAt(1, "grows (1 = 2) = (3 < 4) @= 1;");
        faultAt(2, "grows @10000;");
        faultAt(0, "grows 9999;");
        faultAt(1, "grows 1 @10000;");
        faultAt(3, "grows @foo;");
        faultAt(3, "grows @trap;");
        faultAt(3, "grows @drown;");
        faultAt(1, "grows 1 @ar 1;");
        faultAt(1, "grows 1 @end 1;");
        faultAt(3, "grows @hot 1;");
        faultAt(3, "grows @and;");
        faultAt(3, "grows @word;");
        faultAt(3, "grows 1 + @or;");
        faultAt(3, "grows 1 + @not 1;");
        faultAt(3, "grows 1 < @not 1;");
        faultAt(3, "grows 1 * @not 1;");
        faultAt(3, "grows not @grows;");
        faultAt(3, "grows 1 and @overlaps;");
        faultAt(0, "grows " + times(6, "not ") + "1;");
        faultAt(2, "grows " + times(6, "not ") + "@not 1;");
        faultAt(0, "grows " + times(6, "not ") + "1 and " + times(6, "not ") + "1;");
        faultAt(0, "grows " + times(6, "not ") + "(" + times(6, "not ") + "1);");
        faultAt(2, "grows (" + times(6, "not ") + "@not 1);");
        faultAt(3, "grows 1+" + "@not " + times(6, "not ") + "1;");
        faultAt(0, "grows " + times(5, "(") + "1" + times(5, ")") + ";");
        faultAt(2, "grows " + times(6, "(") + "@1" + times(6, ")") + ";");
        faultAt(2, "grows " + times(6, "(") + "@foo");
        faultAt(2, "grows " + times(6, "(") + "@and");
        faultAt(2, "grows " + times(6, "(") + "@not 1");
        faultAt(2, "grows " + times(6, "(") + "@(1");
        faultAt(2, "grows " + times(6, "(") + "@12345");
        faultAt(1, "grows " + times(6, "(") + "@)");
        faultAt(1, "grows " + times(6, "(") + "@");
        faultAt(0, "grows " + times(5, "(") + "1" + times(5, ")") + "+" + times(5, "(") + "1" + times(5, ")") + ";");
        faultAt(1, "grows 1 or 2@)");
    }

    private static void fault() {
        promise(4);
        GrownWords x = new GrownWords();
        due(-1, () -> x.fault());
        due(1, () -> tell(x, "word a 1; foo"));
        due(10, () -> x.fault());
        due(WRONG, () -> x.baggage(1));
        due(10, () -> x.fault());
        due(1, () -> tell(x, "heat 1 "));
        due(7, () -> x.fault());
        x.image();
        due(0, () -> tell(x, "word a 1;"));
        due(-1, () -> x.fault());
    }

    private static void count() {
        promise(5);
        GrownWords x = told(SMOKE);
        due(2, () -> x.days(2));
        x.draw(0, 4);
        x.see(1, 0, 17);
        x.see(1, 0, 4);
        x.feed(0, 0, 0, 0, 0);
        int[] counts = {4, 3, 2, 6, 1, 2, 7 + 3 + 6, 1, 1, 20, 0, 1, 1};
        for (int what = 0; what < counts.length; what++) {
            int one = what;
            due(counts[one], () -> x.count(one));
        }
        due(NO_SUCH, () -> x.count(-1));
        due(NO_SUCH, () -> x.count(13));
        due(NO_SUCH, () -> x.count(Integer.MIN_VALUE));
        due(3, () -> x.days(1));
        due(3, () -> x.count(3));
    }

    private static void word() {
        promise(6);
        GrownWords x = told("word ab 3;word cabc 0;word ba 9;word aab 1;trunk 0 2 0;trunk 2 2 0;trunk 3 0 1;");
        due(4, () -> x.word(1, 0));
        due(9, () -> x.word(2, 1));
        due(0, () -> x.word(1, 1));
        due(1 | 2 | 8, () -> x.word(0, 2));
        due(2, () -> x.word(1, 2));
        due(4, () -> x.word(2, 2));
        due(1 | 4, () -> x.word(0, 3));
        due(1 | 4, () -> x.word(2, 3));
        due(8, () -> x.word(3, 3));
        due(1 | 4, () -> x.word(0, 4));
        due(0, () -> x.word(1, 4));
        due(1 | 2, () -> x.word(2, 4));
        x.pack(1, 1, 1);
        due(2, () -> x.word(1, 4));
        due(3, () -> x.word(2, 4));
        GrownWords z = told("word z 1;word zz 1;word yz 1;word zy 1;");
        due(1, () -> z.word(0, 3));
        due(2, () -> z.word(1, 3));
        due(12, () -> z.word(2, 3));
        due(NO_SUCH, () -> x.word(4, 0));
        due(NO_SUCH, () -> x.word(-1, 0));
        due(NO_SUCH, () -> x.word(0, 5));
        due(NO_SUCH, () -> x.word(0, -1));
    }

    private static void letter() {
        promise(7);
        GrownWords x = told("word az 0;word m 1;");
        due(1, () -> x.letter(0, 0));
        due(26, () -> x.letter(0, 1));
        due(13, () -> x.letter(1, 0));
        due(NO_SUCH, () -> x.letter(1, 1));
        due(NO_SUCH, () -> x.letter(0, -1));
        due(NO_SUCH, () -> x.letter(2, 0));
        due(NO_SUCH, () -> x.letter(-1, 0));
        due(NO_SUCH, () -> x.letter(0, Integer.MAX_VALUE));
    }

    private static void trunk() {
        promise(8);
        GrownWords x = told(SMOKE);
        x.days(2);
        int[][] wants = {{0, 1, 4, 1, 3, 7, 0, 1}, {2, 1, 2, 3, 3, 3, 1, 0}, {1, 3, 9, 0, 3, 6, 0, -1}};
        for (int t = 0; t < 3; t++) {
            for (int what = 0; what < 7; what++) {
                int one = t;
                int w = what;
                due(wants[t][what], () -> x.trunk(one, w));
            }
        }
        // smokfog, kog, foggof: 4 changes, 6 and 5: smokfog with kog.
        due(1, () -> x.trunk(0, 7));
        due(0, () -> x.trunk(1, 7));
        due(-1, () -> x.trunk(2, 7));
        due(NO_SUCH, () -> x.trunk(3, 0));
        due(NO_SUCH, () -> x.trunk(-1, 0));
        due(NO_SUCH, () -> x.trunk(0, 8));
        due(NO_SUCH, () -> x.trunk(0, -1));
    }

    // ---- Promise 9 to 14, and how TRUNKS grow

    private static void days() {
        promise(9);
        GrownWords x = told(SMOKE);
        due(1, () -> x.days(1));
        due(1, () -> x.trunk(0, 3));
        due(2, () -> x.trunk(1, 3));
        due(0, () -> x.trunk(2, 3));
        due(2, () -> x.days(1));
        due(1, () -> x.trunk(0, 3));
        due(3, () -> x.trunk(1, 3));
        due(-1, () -> x.days(0));
        due(-1, () -> x.days(21));
        due(-1, () -> x.days(-1));
        due(-1, () -> x.days(Integer.MAX_VALUE));
        due(4, () -> x.count(11));
        for (int i = 1; i <= 49; i++) {
            x.days(20);
        }
        due(982, () -> x.count(2));
        due(-1, () -> x.days(18));
        due(999, () -> x.days(17));
        due(-1, () -> x.days(1));
        due(6, () -> x.count(11));
        due(40, () -> x.count(7));
    }

    private static void growth() {
        promise(9);
        grows(0, "0");
        grows(2, "2");
        grows(3, "9");
        grows(0, "0 - 2");
        grows(3, "strap - 1");
        grows(2, "heat - 3");
        grows(2, "said");
        grows(3, "meant - 4");
        grows(1, "meant - said * 3");
        grows(3, "(meant - said) * 3");
        grows(2, "7 / 3");
        grows(0, "7 / 0");
        grows(1, "2 + (0 - 7) / 4");
        grows(1, "1 + (0-1)/2");
        grows(2, "9 - 4 - 3");
        grows(2, "12 / 3 / 2");
        grows(1, "said < meant");
        grows(0, "meant < said");
        grows(1, "said = 2");
        grows(1, "1 + 1 = 2");
        grows(0, "not 1 + 1 = 2");
        grows(1, "not not 5");
        grows(0, "not 5 and 0");
        grows(1, "not (5 and 0)");
        grows(1, "1 or 1 and 0");
        grows(0, "(1 or 1) and 0");
        grows(1, "7 or 0");
        grows(1, "2 and 3");
        grows(1, "not 0 < 0");
        grows(2, "2*(1<2)");
        // These wrap to -1295567266 and -95807254.
        grows(1, "9999*9999*30 < 0");
        grows(1, "9999*9999*42 + 9999*9581 + 6831 = 0 - 4");
        // -2147483648 by -1 wraps to itself.
        grows(1, "8192*8192*32 / (0-1) < 0");
        // As many parts and signs wait as can.
        String nots = times(6, "not ");
        grows(1, times(5, "0 or " + nots + "1 and 0 < 0 + 1 * (") + "0 or " + nots + "1 and 0 < 0 + 1 * 3" + times(5, ")"));
        grows(3, times(5, "0 + 2 * (") + "1" + times(5, " - 1) - 1") + " + 128 - 64");
        grows(1, times(300, "1+") + "1 - 300");
        GrownWords x = told("word abab 1;word baba 2;trunk 0 1 0;trunk 1 0 0;treaty 0 0 3;grows overlap - 1;");
        due(2, () -> x.then(0, 1, 0));
        due(2, () -> x.then(1, 1, 0));
        due(2, () -> x.then(2, 1, 0));
        due(4, () -> x.then(2, 2, 0));
        GrownWords y = told(long2("grows day = 2 or grown = 1;heat 1 2;"));
        due(0, () -> y.then(0, 2, 0));
        due(1, () -> y.then(0, 3, 0));
        due(2, () -> y.then(0, 4, 0));
        due(2, () -> y.then(0, 60, 0));
        GrownWords z = told("word abcdefgh 2;treaty 0 0 4;grows 9;heat 9;");
        due(6, () -> z.then(0, 1, 0));
        due(8, () -> z.then(0, 2, 0));
        GrownWords h = told("word abcdefgh 2;treaty 0 0 4;grows heat;heat 2 0 1;");
        due(4, () -> h.then(0, 1, 0));
        due(4, () -> h.then(0, 2, 0));
        due(6, () -> h.then(0, 3, 0));
        GrownWords s = told("word abcdefgh 2;trunk 0 0 5;trunk 0 0 4;");
        due(0, () -> s.then(0, 60, 0));
        due(7, () -> s.then(1, 7, 0));
        due(8, () -> s.then(1, 60, 0));
    }

    private static void draw() {
        promise(10);
        GrownWords x = told(SMOKE);
        due(4, () -> x.draw(0, 9));
        due(9, () -> x.draw(0, 0));
        due(-1, () -> x.draw(0, 0));
        due(-1, () -> x.draw(0, 10));
        due(-1, () -> x.draw(0, -1));
        due(3, () -> x.count(11));
        due(2, () -> x.count(7));
        due(0, () -> x.trunk(0, 2));
        due(2, () -> x.trunk(1, 2));
        due(NO_SUCH, () -> x.draw(3, 1));
        due(NO_SUCH, () -> x.draw(-1, 10));
        due(3, () -> x.count(11));
    }

    private static void pull() {
        promise(11);
        GrownWords x = told(long2("treaty 0 1 0;"));
        due(-1, () -> x.pull(0, 1));
        x.days(5);
        due(4, () -> x.pull(0, 1));
        due(4, () -> x.trunk(0, 3));
        due(-1, () -> x.pull(0, 0));
        due(-1, () -> x.pull(0, 10));
        due(-1, () -> x.pull(0, -3));
        due(0, () -> x.pull(0, 9));
        due(-1, () -> x.pull(0, 9));
        due(8, () -> x.trunk(1, 3));
        due(-1, () -> x.pull(1, 1));
        x.turn(1);
        x.days(1);
        due(2, () -> x.trunk(1, 3));
        due(-1, () -> x.pull(1, 1));
        x.days(7);
        due(8, () -> x.trunk(0, 3));
        due(-1, () -> x.pull(0, 1));
        due(NO_SUCH, () -> x.pull(2, 1));
        due(NO_SUCH, () -> x.pull(-1, 0));
        due(8, () -> x.count(11));
        due(6, () -> x.count(7));
    }

    private static void turn() {
        promise(12);
        GrownWords x = told(SMOKE);
        x.days(2);
        due(3, () -> x.turn(1));
        due(1, () -> x.trunk(1, 0));
        due(2, () -> x.trunk(1, 1));
        due(0, () -> x.trunk(1, 3));
        due(2, () -> x.trunk(1, 2));
        due(1, () -> x.trunk(1, 6));
        due(0, () -> x.turn(1));
        due(2, () -> x.trunk(1, 0));
        due(3, () -> x.count(7));
        due(NO_SUCH, () -> x.turn(3));
        due(NO_SUCH, () -> x.turn(-1));
        due(0, () -> x.count(11));
    }

    private static void pack() {
        promise(13);
        GrownWords x = told(SMOKE);
        x.days(2);
        due(-1, () -> x.pack(0, 0, 0));
        due(1, () -> x.trunk(0, 3));
        due(0, () -> x.pack(0, 0, 1));
        due(1, () -> x.trunk(0, 0));
        due(1, () -> x.trunk(0, 1));
        due(0, () -> x.trunk(0, 3));
        due(1, () -> x.pack(1, 1, 3));
        due(2, () -> x.trunk(1, 0));
        due(3, () -> x.trunk(1, 1));
        due(0, () -> x.trunk(1, 3));
        due(-1, () -> x.pack(1, 1, 3));
        due(2, () -> x.count(11));
        due(NO_SUCH, () -> x.pack(3, 0, 0));
        due(NO_SUCH, () -> x.pack(0, 2, 0));
        due(NO_SUCH, () -> x.pack(0, -1, 0));
        due(NO_SUCH, () -> x.pack(0, 0, 4));
        due(NO_SUCH, () -> x.pack(0, 0, -1));
        due(2, () -> x.count(11));
        due(3, () -> x.count(7));
    }

    private static void undo() {
        promise(14);
        GrownWords x = told(SMOKE);
        due(-1, () -> x.undo());
        due(0, () -> x.count(11));
        x.days(3);
        x.pull(0, 1);
        x.turn(1);
        x.pack(2, 1, 0);
        x.draw(2, 0);
        due(-1, () -> x.draw(2, 0));
        due(4, () -> x.undo());
        due(9, () -> x.trunk(2, 2));
        due(3, () -> x.undo());
        due(3, () -> x.trunk(2, 1));
        due(2, () -> x.undo());
        due(2, () -> x.trunk(1, 0));
        due(3, () -> x.trunk(1, 3));
        due(1, () -> x.undo());
        due(2, () -> x.trunk(0, 3));
        due(0, () -> x.undo());
        due(0, () -> x.trunk(0, 3));
        due(0, () -> x.trunk(1, 3));
        due(0, () -> x.count(2));
        due(-1, () -> x.undo());
        due(1, () -> x.count(11));
        // The latest 40 alone are kept.
        for (int i = 0; i < 43; i++) {
            x.days(1);
        }
        due(40, () -> x.count(7));
        for (int left = 39; left >= 0; left--) {
            int want = left;
            due(want, () -> x.undo());
            due(3 + want, () -> x.count(2));
        }
        due(-1, () -> x.undo());
        due(3, () -> x.count(2));
        due(2, () -> x.trunk(0, 3));
    }

    // ---- Promise 15 to 20

    private static void then() {
        promise(15);
        GrownWords x = told(SMOKE);
        due(0, () -> x.then(0, 0, 0));
        due(1, () -> x.then(0, 1, 0));
        due(3, () -> x.then(0, 60, 0));
        due(7, () -> x.then(0, 1, 1));
        due(5, () -> x.then(0, 60, 1));
        due(1, () -> x.then(1, 2, 2));
        due(1, () -> x.then(1, 2, 3));
        // smokefog: 3 changes to smoke, 5 to fog.
        due(0, () -> x.then(0, 0, 2));
        due(3, () -> x.then(0, 0, 3));
        due(0, () -> x.count(2));
        x.days(1);
        due(1, () -> x.then(0, 0, 0));
        due(2, () -> x.then(0, 2, 0));
        due(NO_SUCH, () -> x.then(3, 61, 0));
        due(NO_SUCH, () -> x.then(-1, 0, 0));
        due(NO_SUCH, () -> x.then(0, 61, 4));
        due(NO_SUCH, () -> x.then(0, 0, -1));
        due(WRONG, () -> x.then(0, 61, 0));
        due(WRONG, () -> x.then(0, -1, 3));
        // ab: one change to b, to a: the least WORD.
        GrownWords y = told("word b 1;word a 2;trunk 1 0 9;");
        due(0, () -> y.then(0, 0, 2));
        due(1, () -> y.then(0, 0, 3));
    }

    private static void blend() {
        promise(16);
        GrownWords x = told(long2("grows 1;"));
        String[] blends = {"abcdefghijklmnop", "abcdefgijklmnop", "abcdefgjklmnop", "abcdefjklmnop", "abcdefklmnop"};
        for (int days = 0; days < blends.length; days++) {
            for (int i = 0; i < 16; i++) {
                int place = i;
                int behind = days;
                int want = i < blends[days].length() ? blends[days].charAt(i) - 'a' + 1 : -1;
                due(want, () -> x.blend(0, place, behind));
            }
        }
        due(4, () -> x.blend(0, 3, 8));
        due(13, () -> x.blend(0, 4, 60));
        due(-1, () -> x.blend(0, 8, 8));
        due(-1, () -> x.blend(0, -1, 0));
        due(-1, () -> x.blend(0, Integer.MAX_VALUE, 0));
        due(NO_SUCH, () -> x.blend(1, 0, -1));
        due(NO_SUCH, () -> x.blend(-1, 0, 0));
        due(WRONG, () -> x.blend(0, 99, 61));
        due(WRONG, () -> x.blend(0, -1, -1));
    }

    private static void later() {
        promise(17);
        GrownWords x = told(SMOKE);
        due(0, () -> x.later(1, 0));
        due(2, () -> x.later(2, 0));
        due(3, () -> x.later(60, 0));
        due(0, () -> x.later(0, 1));
        due(2, () -> x.later(5, 1));
        due(0, () -> x.later(0, 2));
        due(4, () -> x.later(2, 2));
        x.days(1);
        due(1, () -> x.later(1, 2));
        due(3, () -> x.later(60, 2));
        due(NO_SUCH, () -> x.later(61, 3));
        due(NO_SUCH, () -> x.later(0, -1));
        due(WRONG, () -> x.later(61, 0));
        due(WRONG, () -> x.later(-1, 2));
        GrownWords y = told("word ab 1;word abc 1;trunk 0 0 1;trunk 1 1 1;trunk 1 1 2;heat 0;");
        due(1, () -> y.later(0, 1));
        GrownWords z = new GrownWords();
        due(-1, () -> z.later(0, 1));
        due(0, () -> z.later(0, 0));
        due(0, () -> z.later(60, 2));
    }

    private static void full() {
        promise(18);
        GrownWords x = told(SMOKE);
        due(5, () -> x.full(0));
        due(2, () -> x.full(1));
        due(-1, () -> x.full(2));
        x.days(2);
        due(3, () -> x.full(0));
        due(0, () -> x.full(1));
        due(NO_SUCH, () -> x.full(3));
        due(NO_SUCH, () -> x.full(-1));
        GrownWords y = told("word a 1;trunk 0 0 1;trunk 0 0 2;grows day = 59 and strap = 1 or day = 60 and strap = 2;");
        due(60, () -> y.full(0));
        due(-1, () -> y.full(1));
    }

    private static void read() {
        promise(19);
        GrownWords x = told(SMOKE);
        due(0, () -> x.read(0, 0));
        due(0, () -> x.read(0, 1));
        due(-1, () -> x.read(0, 2));
        due(0, () -> x.read(2, 3));
        GrownWords y = told("word abcd 1;word bcda 2;word cdcd 1;word ccda 1;trunk 0 1 0;trunk 0 2 0;grows 1;");
        // abcdbcda, abcbcda, abccda, abcda, abda
        due(0, () -> y.read(0, 1));
        due(2, () -> y.read(0, 3));
        // abcdcdcd, abccdcd, abcdcd
        due(0, () -> y.read(1, 0));
        due(0, () -> y.read(1, 2));
        due(-1, () -> y.read(0, 2));
        y.days(1);
        due(1, () -> y.read(0, 3));
        due(1, () -> y.read(1, 0));
        due(NO_SUCH, () -> y.read(2, 0));
        due(NO_SUCH, () -> y.read(0, 4));
        due(NO_SUCH, () -> y.read(-1, 0));
        due(NO_SUCH, () -> y.read(0, -1));
        GrownWords z = told("word ab 1;word bc 1;word ac 1;word abbc 1;trunk 0 1 1;trunk 0 1 2;"
            + "grows day / 59 * (strap = 1) * 3 + day / 60 * 3;");
        due(60, () -> z.read(0, 2));
        due(-1, () -> z.read(1, 2));
    }

    private static void alike() {
        promise(20);
        GrownWords x = told("word abc 1;word bcd 2;word ab 3;word cbcd 1;word bd 1;"
            + "trunk 0 1 0;trunk 2 3 9;trunk 2 1 1;trunk 0 4 1;heat 1;");
        due(0, () -> x.alike(0, 1));
        due(0, () -> x.alike(1, 0));
        due(-1, () -> x.alike(0, 0));
        // abcbcd, abbcd, abcd, acd..; abbcd stays: with the one day.
        due(1, () -> x.alike(0, 2));
        // abcbcd .. and abcbd: never.
        due(-1, () -> x.alike(0, 3));
        due(NO_SUCH, () -> x.alike(0, 4));
        due(NO_SUCH, () -> x.alike(4, 4));
        due(NO_SUCH, () -> x.alike(-1, 0));
        // With the first day both are abccd; below abc, abd, abd.
        GrownWords w = told("word abcd 1;word cd 2;word ab 3;word abccd 4;trunk 0 1 0;trunk 3 1 0;grows said;");
        due(1, () -> w.alike(0, 1));
        GrownWords v = told("word abc 1;word abd 2;word c 2;word d 1;trunk 0 2 0;trunk 1 3 0;trunk 0 3 0;grows 1;");
        due(-1, () -> v.alike(0, 1));
        due(-1, () -> v.alike(0, 2));
        due(1, () -> v.alike(1, 2));
        GrownWords y = told("word ab 1;word ba 1;trunk 0 0 1;trunk 1 1 2;trunk 0 0 5;"
            + "grows (day = 59 and strap < 3 or day = 60) * 2;");
        due(0, () -> y.alike(0, 2));
        due(-1, () -> y.alike(0, 1));
        GrownWords z = told("word ab 1;word a 1;word b 1;trunk 0 0 1;trunk 1 2 5;trunk 0 0 2;"
            + "grows (day = 59 and strap = 1 or day = 60 and strap = 2) * 2;");
        due(60, () -> z.alike(0, 1));
        due(-1, () -> z.alike(2, 1));
    }

    // ---- Promise 21 to 25

    private static void both() {
        promise(21);
        GrownWords x = told("word abab 1;word bab 1;word kitten 1;word sitting 1;word aaa 1;word a 1;");
        due(1, () -> x.both(0, 1, 0));
        due(2, () -> x.both(1, 0, 0));
        due(2, () -> x.both(0, 0, 0));
        due(2, () -> x.both(4, 4, 0));
        due(0, () -> x.both(4, 5, 0));
        due(0, () -> x.both(5, 5, 0));
        due(0, () -> x.both(2, 3, 0));
        due(3, () -> x.both(2, 3, 1));
        due(3, () -> x.both(3, 2, 1));
        due(0, () -> x.both(3, 3, 1));
        due(1, () -> x.both(0, 1, 1));
        due(2, () -> x.both(4, 5, 1));
        due(4, () -> x.both(2, 3, 2));
        due(7, () -> x.both(3, 3, 2));
        due(2, () -> x.both(0, 4, 2));
        due(0, () -> x.both(2, 5, 2));
        due(NO_SUCH, () -> x.both(6, 0, 0));
        due(NO_SUCH, () -> x.both(0, 6, 0));
        due(NO_SUCH, () -> x.both(-1, 0, 0));
        due(NO_SUCH, () -> x.both(0, -1, 0));
        due(NO_SUCH, () -> x.both(0, 0, 3));
        due(NO_SUCH, () -> x.both(0, 0, -1));
    }

    private static void order(int[] wants, Call size, java.util.function.IntUnaryOperator word, int want) {
        due(want, size);
        for (int i = 0; i < wants.length; i++) {
            int place = i;
            due(wants[i], () -> word.applyAsInt(place));
        }
        due(NO_SUCH, () -> word.applyAsInt(wants.length));
        due(NO_SUCH, () -> word.applyAsInt(-2));
        due(NO_SUCH, () -> word.applyAsInt(Integer.MIN_VALUE));
    }

    private static void row() {
        promise(22);
        GrownWords x = told(SMOKE);
        // smoke keg gof fog: 14 letters less 2, 1, 1.
        order(new int[] {0, 2, 3, 1}, () -> x.row(-1), x::row, 10);
        GrownWords y = told("word bc 1;word ab 1;word cd 1;");
        order(new int[] {1, 0, 2}, () -> y.row(-1), y::row, 4);
        // Nothing overlaps: the first row; a word within another one counts whole.
        GrownWords z = told("word ab 1;word a 1;word cabc 1;");
        order(new int[] {0, 1, 2}, () -> z.row(-1), z::row, 7);
        GrownWords two = told("word ab 1;word bc 1;word xy 1;word yz 1;");
        order(new int[] {0, 1, 2, 3}, () -> two.row(-1), two::row, 6);
        GrownWords one = told("word ab 1;");
        order(new int[] {0}, () -> one.row(-1), one::row, 2);
        GrownWords none = new GrownWords();
        order(new int[0], () -> none.row(-1), none::row, 0);
        String eight = "";
        for (String w : new String[] {"hi", "gh", "fg", "ef", "de", "cd", "bc", "ab"}) {
            eight += "word " + w + " 1;";
        }
        GrownWords all = told(eight);
        order(new int[] {7, 6, 5, 4, 3, 2, 1, 0}, () -> all.row(-1), all::row, 9);
    }

    private static void chain() {
        promise(23);
        GrownWords x = told(SMOKE);
        order(new int[] {2, 3, 1}, () -> x.chain(-1), x::chain, 3);
        // ab bc ca: from each one on all three.
        GrownWords y = told("word ab 1;word bc 1;word ca 1;word x 1;");
        order(new int[] {0, 1, 2}, () -> y.chain(-1), y::chain, 3);
        GrownWords z = told("word xyx 1;word a 1;word xx 1;");
        order(new int[] {0, 2}, () -> z.chain(-1), z::chain, 2);
        GrownWords one = told("word ab 1;word cd 1;");
        order(new int[] {0}, () -> one.chain(-1), one::chain, 1);
        GrownWords none = new GrownWords();
        order(new int[0], () -> none.chain(-1), none::chain, 0);
    }

    private static void toDraw() {
        promise(24);
        GrownWords x = told(SMOKE);
        due(5, () -> x.toDraw(0, 5));
        due(2, () -> x.toDraw(0, 3));
        due(-1, () -> x.toDraw(0, 2));
        due(-1, () -> x.toDraw(2, 0));
        due(5, () -> x.toDraw(2, 60));
        x.days(2);
        due(9, () -> x.toDraw(1, 0));
        due(9, () -> x.toDraw(1, 60));
        due(5, () -> x.toDraw(0, 3));
        due(4, () -> x.trunk(0, 2));
        due(NO_SUCH, () -> x.toDraw(3, 61));
        due(NO_SUCH, () -> x.toDraw(-1, 0));
        due(WRONG, () -> x.toDraw(0, 61));
        due(WRONG, () -> x.toDraw(0, -1));
        GrownWords y = told("word abc 1;trunk 0 0 0;grows strap = 4 or strap = 7;");
        due(7, () -> y.toDraw(0, 3));
        GrownWords z = told("word a 1;trunk 0 0 5;heat 1;");
        due(0, () -> z.toDraw(0, 1));
        GrownWords all = told("word a 1;trunk 0 0 5;grows day = 59;");
        due(9, () -> all.toDraw(0, 60));
        due(-1, () -> all.toDraw(0, 59));
    }

    private static void partners(GrownWords x, int total, int... with) {
        due(total, () -> x.couples());
        for (int t = 0; t < with.length; t++) {
            int one = t;
            due(with[t], () -> x.trunk(one, 7));
        }
    }

    private static void couples() {
        promise(25);
        partners(told(SMOKE), 4, 1, 0, -1);
        partners(new GrownWords(), 0);
        partners(told("word a 1;trunk 0 0 1;"), 0, -1);
        partners(told("word a 1;" + times(5, "trunk 0 0 1;")), 0, 1, 0, 3, 2, -1);
        partners(told("word a 1;" + times(6, "trunk 0 0 1;")), 0, 1, 0, 3, 2, 5, 4);
        // aa, bb, aa, bb, ab: alone is one of the likes behind all.
        String words = "word a 1;word b 1;word bbbb 1;";
        partners(told(words + "trunk 0 0 1;trunk 1 1 1;trunk 0 0 1;trunk 1 1 1;"), 0, 2, 3, 0, 1);
        partners(told(words + "trunk 2 2 1;trunk 0 0 1;trunk 0 0 1;"), 0, -1, 2, 1);
        // The nearest two of all need not be a couple: aa ab, ba bb rather than aa bb and the others.
        partners(told(words + "trunk 0 0 1;trunk 0 1 1;trunk 1 1 1;trunk 1 0 1;"), 2, 1, 0, 3, 2);
        GrownWords x = told("word ab 1;word ba 1;trunk 0 0 1;trunk 1 1 1;trunk 0 0 9;grows strap = 1;");
        partners(x, 0, 2, -1, 0);
        x.days(2);
        // ab, ba, abab: the blends of now.
        partners(x, 2, 1, 0, -1);
    }

    // ---- Promise 26 to 29

    private static void see() {
        promise(26);
        GrownWords x = told(SMOKE);
        due(1, () -> x.see(0, 0, 16));
        due(2, () -> x.see(0, 20, 0));
        due(-1, () -> x.see(0, 21, 7));
        due(-1, () -> x.see(0, -1, 7));
        due(-1, () -> x.see(0, 0, 17));
        due(-1, () -> x.see(0, 0, -1));
        due(NO_SUCH, () -> x.see(3, 21, 7));
        due(NO_SUCH, () -> x.see(-1, 0, 0));
        for (int i = 3; i <= 8; i++) {
            int want = i;
            due(want, () -> x.see(2, 0, 6));
        }
        due(-1, () -> x.see(2, 0, 6));
        due(8, () -> x.count(8));
        due(5, () -> x.count(12));
        due(0, () -> x.count(7));
        due(0, () -> x.count(11));
    }

    private static void loose() {
        promise(27);
        GrownWords x = told(SMOKE);
        due(27, () -> x.loose(0));
        due(0, () -> x.loose(1));
        due(1, () -> x.loose(2));
        x.see(0, 1, 7);
        due(23, () -> x.loose(0));
        x.see(0, 2, 7);
        due(20, () -> x.loose(0));
        due(3, () -> x.loose(1));
        due(1, () -> x.loose(2));
        // Not so by the straps that they have: fog+gof has grown on the first day, but not on the second.
        x.see(2, 2, 5);
        due(0, () -> x.loose(2));
        due(3, () -> x.loose(0));
        due(23, () -> x.loose(1));
        // And two can't be loose.
        x.see(1, 3, 6);
        due(0, () -> x.loose(0));
        due(-1, () -> x.loose(1));
        due(NO_SUCH, () -> x.loose(3));
        due(NO_SUCH, () -> x.loose(-1));
        GrownWords y = new GrownWords();
        due(0, () -> y.loose(0));
        due(-1, () -> y.loose(1));
        due(1, () -> y.loose(2));
        // From now on: what was so yesterday isn't so today.
        GrownWords z = told("word abcd 1;trunk 0 0 4;");
        z.see(0, 1, 7);
        due(4, () -> z.loose(0));
        due(1, () -> z.loose(2));
        z.days(1);
        due(0, () -> z.loose(2));
        due(5, () -> z.loose(0));
        due(5, () -> z.loose(1));
        GrownWords last = told("word a 1;trunk 0 0 0;grows day = 19;");
        last.see(0, 20, 1);
        due(1, () -> last.loose(2));
    }

    private static void look() {
        promise(28);
        GrownWords x = told(SMOKE);
        due(0, () -> x.look(0));
        due(2, () -> x.look(1));
        x.see(0, 1, 7);
        x.see(0, 2, 7);
        due(1, () -> x.look(0));
        due(2, () -> x.look(1));
        x.see(2, 2, 5);
        // Only fog+gof by 3, 4, 5: smoke+fog 3, keg+fog 3, fog+gof 3 letters.
        due(0, () -> x.look(0));
        due(1, () -> x.look(1));
        x.see(1, 0, 0);
        due(-1, () -> x.look(0));
        due(0, () -> x.look(1));
        due(NO_SUCH, () -> x.look(2));
        due(NO_SUCH, () -> x.look(-1));
        GrownWords y = told("word abcdefgh 1;trunk 0 0 9;trunk 0 0 9;heat 1 3 5;");
        // Behind 6 days: 6 by 0, 4 by 1 and 2, 2 by 3 and 4, else 0.
        due(0, () -> y.look(0));
        due(4, () -> y.look(1));
        // By its own strap it would be 0: that counts only where another trunk's is loose.
        GrownWords z = told("word abcdefgh 1;trunk 0 0 9;heat 1 3 5;");
        z.see(0, 3, 13);
        due(1, () -> z.loose(0));
        due(1, () -> z.look(1));
        // Six days: the sixth is day 5.
        GrownWords six = told("word a 1;word b 2;trunk 0 0 9;trunk 1 1 9;grows day = said + 4 and strap < 3;");
        due(0, () -> six.look(0));
        due(2, () -> six.look(1));
        GrownWords seven = told("word a 1;word b 2;trunk 1 1 9;trunk 0 0 9;grows day = said + 4 and strap < 3;");
        due(1, () -> seven.look(0));
        due(2, () -> seven.look(1));
        GrownWords none = new GrownWords();
        due(-1, () -> none.look(0));
        due(0, () -> none.look(1));
    }

    private static void forget() {
        promise(29);
        GrownWords x = told(SMOKE);
        x.see(0, 1, 7);
        x.see(0, 21, 7);
        x.forget();
        due(0, () -> x.count(8));
        due(27, () -> x.loose(0));
        due(1, () -> x.count(12));
        due(1, () -> x.see(0, 1, 7));
    }

    // ---- Promise 30 to 34

    private static void seasons() {
        promise(30);
        GrownWords x = told(SMOKE);
        due(0, () -> x.seasons(1, 1, 5));
        due(25, () -> x.seasons(1, 2, 5));
        due(9, () -> x.seasons(1, 2, 3));
        // smoke+fog: 3 hot days at least of 5: 10 * 8 * 64 + 5 * 16 * 8 + 32 by 2 and 8 tenths.
        due(10 * 8 * 64 + 5 * 16 * 8 + 32, () -> x.seasons(0, 5, 2));
        due(100000, () -> x.seasons(0, 5, 10));
        due(0, () -> x.seasons(0, 5, 0));
        due(0, () -> x.seasons(2, 5, 10));
        x.days(2);
        due(10, () -> x.seasons(1, 1, 0));
        due(NO_SUCH, () -> x.seasons(3, 0, 0));
        due(NO_SUCH, () -> x.seasons(-1, 1, 1));
        due(WRONG, () -> x.seasons(0, 0, 1));
        due(WRONG, () -> x.seasons(0, 6, 1));
        due(WRONG, () -> x.seasons(0, 1, -1));
        due(WRONG, () -> x.seasons(0, 1, 11));
        // A cold day is 0, whatever was told; the DAY goes on.
        GrownWords y = told("word ab 1;trunk 0 0 1;grows heat = 0 and day = 1 or heat = 9 and day = 0;heat 5;");
        due(10 * 0 + 21, () -> y.seasons(0, 2, 3));
    }

    private static void game() {
        promise(31);
        GrownWords x = told(SMOKE);
        due(1, () -> x.game(0, 1, 0));
        due(11, () -> x.game(0, 1, 1));
        due(NO_SUCH, () -> x.game(3, 3, 0));
        due(NO_SUCH, () -> x.game(0, -1, 0));
        due(NO_SUCH, () -> x.game(0, 0, 2));
        due(NO_SUCH, () -> x.game(0, 0, -1));
        due(WRONG, () -> x.game(0, 0, 0));
        // No strap holds nothing: none draws it.
        due(1, () -> x.game(0, 2, 0));
        due(10, () -> x.game(0, 2, 1));
        due(1, () -> x.game(2, 0, 1));
        // One letter is as much as it costs: both choices are like.
        GrownWords y = told("word abcd 1;trunk 0 0 4;trunk 0 0 9;trunk 0 0 3;heat 5 0 0 0 0;");
        due(2, () -> y.game(0, 1, 0));
        due(0, () -> y.game(0, 1, 1));
        due(4, () -> y.game(0, 2, 0));
        due(0, () -> y.game(0, 2, 1));
        due(0, () -> y.game(1, 0, 1));
        // Four days: the fourth is day 3.
        GrownWords z = told("word abcdefgh 3;word ijklmnop 4;trunk 0 0 1;trunk 1 1 1;grows (day = said) * (strap = 1) * 3;");
        due(1, () -> z.game(0, 1, 0));
        due(10, () -> z.game(0, 1, 1));
        due(1, () -> z.game(1, 0, 1));
    }

    private static void years() {
        promise(32);
        GrownWords x = told(SMOKE);
        due(0, () -> x.years(5, 0, 0));
        due(0, () -> x.years(5, 0, 1));
        due(20, () -> x.years(5, 0, 2));
        due(NO_SUCH, () -> x.years(5, 61, 3));
        due(NO_SUCH, () -> x.years(5, 0, -1));
        due(WRONG, () -> x.years(5, 61, 0));
        due(WRONG, () -> x.years(5, -1, 2));
        // Seed 1: 1103527590, bits 16 to 30 16838, of 6: 2; then 5758, of 1 trunk: 0; 10113, of 2 words: 1; 17515,
        // of 2 halves: 1: the same word, GROWN is 0. Then grown by 1 on that day.
        GrownWords y = told("word abcd 2;word efgh 7;trunk 0 1 0;grows 1;");
        y.days(3);
        due(0, () -> y.years(1, 1, 0));
        due(0, () -> y.years(1, 1, 1));
        due(7, () -> y.years(1, 1, 2));
        due(0, () -> y.count(4));
        // Seed 5 draws 16818 % 6 = 3 (see seedOf): nothing is drawn, it is full by the fourth day.
        int quiet = seedOf(3);
        due(1, () -> y.years(quiet, 1, 0));
        due(1, () -> y.years(quiet, 1, 1));
        due(4, () -> y.years(quiet, 1, 2));
        int turned = seedOf(0);
        due(0, () -> y.years(turned, 1, 0));
        due(7, () -> y.years(turned, 1, 2));
        // A DRAW of 10 for the strap, behind that of the one trunk.
        int drawn = seedOf(1);
        int strap = draws(drawn, 3) % 10;
        GrownWords z = told("word abcdefgh 2;trunk 0 0 0;grows strap = " + strap + " and 0 < strap;");
        due(strap > 0 ? 15 : 16, () -> z.years(drawn, 1, 2));
        // Another word in its half: the trunk of words of 4 and 4 letters gets one of 3, or of 5, ahead or behind.
        for (int seed = seedOf(2); seed < 400; seed++) {
            int one = seed;
            if (draws(seed, 1) % 6 == 2) {
                GrownWords w = told("word a 1;word abcdefg 1;word abcd 1;trunk 2 2 0;grows 0;");
                int[] sizes = {1, 7, 4};
                due(4 + sizes[draws(seed, 3) % 3], () -> w.years(one, 1, 2));
                GrownWords v = told("word a 1;word abcdefg 2;word abcd 3;trunk 2 2 0;grows said = 3;");
                boolean said = draws(seed, 4) % 2 == 0 && draws(seed, 3) % 3 != 2;
                due(4 + sizes[draws(seed, 3) % 3] - (said ? 0 : 1), () -> v.years(one, 1, 2));
            }
        }
        // Of two trunks one that is full, and one that becomes so: counted once.
        GrownWords u = told("word a 1;word b 2;trunk 0 0 0;trunk 1 1 0;grows day = said;");
        u.days(2);
        due(1, () -> u.count(4));
        due(1, () -> u.years(quiet, 1, 0));
        due(2, () -> u.years(quiet, 1, 1));
        GrownWords none = new GrownWords();
        due(0, () -> none.years(9, 60, 0));
        due(0, () -> none.years(9, 60, 1));
        due(0, () -> none.years(9, 60, 2));
    }

    /** The number that the so-manieth draw is of (by long numbers, which don't wrap). */
    private static int draws(int seed, int many) {
        long s = seed;
        for (int i = 0; i < many; i++) {
            s = (s * 1103515245L + 12345L) % 4294967296L;
        }
        return (int) (s / 65536 % 32768);
    }

    /** The least seed from 2 on whose first DRAW of 6 is this one. */
    private static int seedOf(int kind) {
        int seed = 2;
        while (draws(seed, 1) % 6 != kind) {
            seed++;
        }
        return seed;
    }

    private static void image() {
        promise(33);
        GrownWords x = told(SMOKE);
        x.days(1);
        x.draw(1, 7);
        x.see(0, 1, 7);
        x.image();
        x.days(3);
        x.turn(0);
        x.draw(0, 44);
        x.forget();
        x.see(2, 1, 0);
        x.see(2, 1, 1);
        x.see(2, 1, 99);
        tell(x, "?");
        x.feed(0, 0, 0, 0, 0);
        due(1, () -> x.restore() ? 1 : 0);
        int[] counts = {4, 3, 1, 3, 0, 2, 7 + 4 + 6, 2, 1, 20, 0, 0, 0};
        for (int what = 0; what < counts.length; what++) {
            int one = what;
            due(counts[one], () -> x.count(one));
        }
        due(0, () -> x.fault());
        due(7, () -> x.trunk(1, 2));
        due(0, () -> x.trunk(0, 0));
        due(1, () -> x.trunk(0, 3));
        due(1, () -> x.undo());
        due(2, () -> x.trunk(1, 2));
        due(0, () -> x.undo());
        due(0, () -> x.count(2));
        // In place of another one.
        x.image();
        x.days(1);
        due(1, () -> x.restore() ? 1 : 0);
        due(0, () -> x.count(2));
        due(0, () -> x.count(7));
    }

    private static void restore() {
        promise(34);
        GrownWords x = told(SMOKE);
        due(0, () -> x.restore() ? 1 : 0);
        x.image();
        for (int i = 0; i < 3; i++) {
            x.days(2);
            due(1, () -> x.restore() ? 1 : 0);
            due(0, () -> x.count(2));
            due(-1, () -> x.undo());
        }
        // What is seen comes back in its places.
        x.see(0, 1, 7);
        x.see(1, 2, 3);
        x.image();
        x.forget();
        x.see(2, 3, 1);
        x.see(2, 3, 2);
        due(0, () -> x.loose(0));
        due(1, () -> x.restore() ? 1 : 0);
        due(5 + 2 + 9, () -> x.loose(0));
        due(1, () -> x.loose(2));
        x.forget();
        // The acts of the image come back, also when more than 40 came behind them.
        for (int i = 0; i < 45; i++) {
            x.days(1);
        }
        x.image();
        for (int i = 0; i < 10; i++) {
            x.undo();
        }
        for (int i = 0; i < 57; i++) {
            x.days(2);
        }
        due(1, () -> x.restore() ? 1 : 0);
        due(45, () -> x.count(2));
        for (int left = 39; left >= 0; left--) {
            int want = left;
            due(want, () -> x.undo());
            due(5 + want, () -> x.count(2));
        }
    }
}
