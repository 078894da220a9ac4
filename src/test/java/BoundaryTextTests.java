/** A test for each sentence on the tape, TEXTS and FAULTS that names a boundary case (promises 1 to 4). */
public final class BoundaryTextTests {
    private static final String EIGHT_WORDS =
        "word a 0;word b 1;word c 2;word d 3;word e 4;word f 5;word g 6;word h 9;";
    private static final String SIX_TRUNKS = "word a 1;" + Check.times(3, "trunk 0 0 0;treaty 0 0 9;");
    private static final String[] KEY_WORDS = {
        "word", "trunk", "treaty", "heat", "grows", "or", "and", "not", "strap", "grown", "said", "meant", "overlap", "day"
    };

    public static void main(String[] args) {
        tape();
        lines();
        numbers();
        tokens();
        expressions();
        faults();
        baggage();
        Check.end();
    }

    private static void tape() {
        Check.sentence("GrownWords(): No WORDS, no TRUNKS.", BoundaryTextTests::newObject);
        Check.sentence("Twenty bytes come behind the tape, of each number the highest first", BoundaryTextTests::bytes);
        Check.sentence("how many it has; NONE, and none come, if it would have more than 700", BoundaryTextTests::fullTape);
        Check.sentence("A TEXT of at most 700 bytes tells it.", BoundaryTextTests::longestText);
        Check.sentence("IllegalArgumentException: the tape has not so many", BoundaryTextTests::moreThanTheTape);
        Check.sentence("n below 0 (nothing changes)", BoundaryTextTests::fewerThanNone);
        Check.sentence("The tape's first n bytes (it is empty then) are BAGGAGE", BoundaryTextTests::firstBytes);
        Check.sentence("The place of the latest baggage()'s FAULT; NONE without.", BoundaryTextTests::place);
        Check.sentence("An object is used for at most 512 calls after it has been made", BoundaryTextTests::lastCall);
    }

    private static void lines() {
        Check.sentence("BAGGAGE: LINE*.", BoundaryTextTests::noLine);
        Check.sentence("WORDS 0, 1 .. (at most 8)", BoundaryTextTests::eightWords);
        Check.sentence("the first TOKEN of the 9th WORD", BoundaryTextTests::ninthWord);
        Check.sentence("1 to 8 LETTERS", BoundaryTextTests::lettersOfAWord);
        Check.sentence("LETTERS that are more than 8", BoundaryTextTests::nineLetters);
        Check.sentence("LETTERS (a to z)", BoundaryTextTests::firstAndLastLetter);
        Check.sentence("LETTERS is a word, whichever.", BoundaryTextTests::keyWordsAsLetters);
        Check.sentence("TRUNKS 0, 1 .. (at most 6)", BoundaryTextTests::sixTrunks);
        Check.sentence("the 7th TRUNK", BoundaryTextTests::seventhTrunk);
        Check.sentence("the WORD that is SAID, the WORD that is MEANT (perhaps the same)", BoundaryTextTests::sameWordTwice);
        Check.sentence("HEAT: 1 to 8 numbers", BoundaryTextTests::heats);
        Check.sentence("the 9th HEAT", BoundaryTextTests::ninthHeat);
        Check.sentence("1 a TOKEN that can't stand there", BoundaryTextTests::linesThatBreak);
        Check.sentence("(the text's length where it ends too soon)", BoundaryTextTests::endsTooSoon);
    }

    private static void numbers() {
        Check.sentence("how FIRM it is (0 to 9)", BoundaryTextTests::firm);
        Check.sentence("a STRAP (0 to 9)", BoundaryTextTests::strap);
        Check.sentence("numbers (0 to 9)", BoundaryTextTests::heatNumbers);
        Check.sentence("NUMBERS (1 to 4 digits)", BoundaryTextTests::digits);
        Check.sentence("a NUMBER of 5 digits or more", BoundaryTextTests::fiveDigits);
        Check.sentence("or (not in an EXPR) not as told", BoundaryTextTests::notAsTold);
        Check.sentence("a WORD (its number) that isn't told ahead", BoundaryTextTests::wordNotTold);
    }

    private static void tokens() {
        Check.sentence("words (a .. z, the longest row)", BoundaryTextTests::longestRow);
        Check.sentence("blanks (32, 10) between them count for nothing", BoundaryTextTests::blanks);
        Check.sentence("a TOKEN that .. is none: where a sign is due", BoundaryTextTests::everyByteForASign);
        Check.sentence("a TOKEN that .. is none: where a NUMBER is due", BoundaryTextTests::everyByteForANumber);
        Check.sentence("a TOKEN that .. is none: where LETTERS are due", BoundaryTextTests::everyByteForLetters);
        Check.sentence("a TOKEN that .. is none: where a LINE begins", BoundaryTextTests::everyByteForALine);
        Check.sentence("a TOKEN that .. is none: where a PART must stand", BoundaryTextTests::everyByteForAPart);
        Check.sentence("a TOKEN that .. is none: behind a PART", BoundaryTextTests::everyByteBehindAPart);
    }

    private static void expressions() {
        Check.sentence("EXPR: AND ('or' AND)*.", BoundaryTextTests::exprBreaks);
        Check.sentence("SUM [('<' | '=') SUM]", BoundaryTextTests::oneTestAlone);
        Check.sentence("From the left; ints that wrap", BoundaryTextTests::wraps);
        Check.sentence("/ cut down to 0", BoundaryTextTests::cutDown);
        Check.sentence("by 0 gives 0", BoundaryTextTests::byZero);
        Check.sentence("tests, not, and, or are 1 or 0 (what isn't 0 holds)", BoundaryTextTests::holds);
        Check.sentence("of an EXPR within 6 others (a NUMBER, any word, a parenthesis)", BoundaryTextTests::deepest);
        Check.sentence("the seventh 'not' side by side", BoundaryTextTests::seventhNot);
        Check.sentence("3 any word where a PART must stand that is no VALUE", BoundaryTextTests::noValue);
    }

    private static void faults() {
        Check.sentence("FAULTS, the first along the text", BoundaryTextTests::firstFault);
        Check.sentence("of one TOKEN the least", BoundaryTextTests::leastFault);
        Check.sentence("at a TOKEN's first byte", BoundaryTextTests::firstByte);
        Check.sentence("4 LETTERS that are those of a WORD told ahead", BoundaryTextTests::toldAhead);
        Check.sentence("5 a second 'heat', 'grows'.", BoundaryTextTests::second);
    }

    private static void baggage() {
        Check.sentence("are BAGGAGE, all anew", BoundaryTextTests::allAnew);
        Check.sentence("all anew: WORDS behind more and longer ones", BoundaryTextTests::anewBehindLongerWords);
        Check.sentence("all anew: rows of WORDS, rules, HEAT behind longer ones", BoundaryTextTests::anewBehindLongerRows);
        Check.sentence("all anew: behind a FAULT in the midst of an EXPR", BoundaryTextTests::anewBehindAFault);
        Check.sentence("all anew: behind a hundred FAULTS", BoundaryTextTests::manyFaults);
        Check.sentence("0 (STATUS stays)", BoundaryTextTests::statusStays);
        Check.sentence("or the FAULT (all else stays, but STATUS)", BoundaryTextTests::allElseStays);
        Check.sentence("ACTS, what is SEEN, the image are gone.", BoundaryTextTests::gone);
    }

    // ---- the tape

    private static void newObject() {
        GrownWords x = new GrownWords();
        // HEAT of this DAY is always 5 without; all others are 0.
        for (int what = 0; what <= 12; what++) {
            int w = what;
            Check.due(w == 3 ? 5 : 0, () -> x.count(w));
        }
        Check.due(-1, () -> GrownWords.NONE);
        Check.due(-1, () -> x.fault());
        Check.due(Check.NO_SUCH, () -> x.word(0, 0));
        Check.due(Check.NO_SUCH, () -> x.letter(0, 0));
        Check.due(Check.NO_SUCH, () -> x.trunk(0, 0));
        Check.due(Check.NO_SUCH, () -> x.draw(0, 1));
        Check.due(Check.NO_SUCH, () -> x.pull(0, 1));
        Check.due(Check.NO_SUCH, () -> x.turn(0));
        Check.due(Check.NO_SUCH, () -> x.pack(0, 0, 0));
        Check.due(Check.NO_SUCH, () -> x.see(0, 0, 0));
        Check.due(Check.NO_SUCH, () -> x.full(0));
        Check.due(Check.NO_SUCH, () -> x.both(0, 0, 0));
        Check.due(-1, () -> x.undo());
        Check.due(0, () -> x.restore() ? 1 : 0);
    }

    private static void bytes() {
        GrownWords x = new GrownWords();
        // "abcd" is 0x61626364: 16 LETTERS by 4 numbers would be too many, so two WORDS of them.
        Check.due(20, () -> x.feed(0x776f7264, 0x20616263, 0x64656667, 0x68203b20, 0x20202020));
        Check.due(1, () -> x.baggage(20));
        Check.due(14, () -> x.fault());
        Check.due(20, () -> x.feed(0x776f7264, 0x20616263, 0x64656667, 0x6820373b, 0x20202020));
        Check.due(40, () -> x.feed(0x68656174, 0x20312032, 0x20332034, 0x20352036, 0x20372038));
        Check.due(60, () -> x.feed(0x3b202020, 0x0a0a0a0a, 0x20202020, 0x20202020, 0x2020203b));
        Check.due(0, () -> x.baggage(59));
        for (int i = 0; i < 8; i++) {
            int place = i;
            Check.due(i + 1, () -> x.letter(0, place));
        }
        Check.due(7, () -> x.word(0, 1));
        for (int day = 0; day < 8; day++) {
            Check.due(day + 1, () -> x.count(3));
            x.days(1);
        }
        // The highest byte of a number below 0.
        Check.due(20, () -> x.feed(0x20202020, -1, 0, 0, 0));
        Check.due(1, () -> x.baggage(20));
        Check.due(4, () -> x.fault());
    }

    private static void fullTape() {
        GrownWords x = new GrownWords();
        for (int k = 1; k <= 34; k++) {
            int size = 20 * k;
            Check.due(size, () -> x.feed(0x20202020, 0x20202020, 0x20202020, 0x20202020, 0x20202020));
        }
        // The last 20 bytes are "word ab 7;word cd 8;".
        Check.due(700, () -> x.feed(0x776f7264, 0x20616220, 0x373b776f, 0x72642063, 0x6420383b));
        Check.due(-1, () -> x.feed(0x23232323, 0x23232323, 0x23232323, 0x23232323, 0x23232323));
        Check.due(-1, () -> x.feed(0, 0, 0, 0, 0));
        Check.due(700, () -> x.count(9));
        for (int what = 10; what <= 12; what++) {
            int w = what;
            Check.due(0, () -> x.count(w));
        }
        Check.due(0, () -> x.baggage(700));
        Check.due(2, () -> x.count(0));
        Check.due(8, () -> x.word(1, 1));
        Check.due(20, () -> x.feed(0, 0, 0, 0, 0));
        Check.leaves(BoundaryTextTests::richAndFull, -1, Check.NO_STATUS, y -> y.feed(-1, -1, -1, -1, -1));
    }

    /** 40 bytes of LINES, and blanks up to 700. */
    private static void richAndFull(GrownWords x) {
        Check.used(x);
        Check.feedAll(x, "word tape 7;word ink 2;trunk 1 0 3;     ");
        for (int k = 0; k < 33; k++) {
            x.feed(0x20202020, 0x20202020, 0x20202020, 0x20202020, 0x20202020);
        }
    }

    private static void longestText() {
        // 34 bytes, 1 and 330 times +1, four bytes, and the ; at the end: what is ahead of that counts.
        String ones = "word abcdefgh 2;trunk 0 0 4;grows 1" + Check.times(330, "+1");
        String[] ends = {"-331;", "-330;", "-329;", "-328;"};
        for (int most = 0; most < ends.length; most++) {
            int want = most;
            GrownWords x = Check.told(ones + ends[most]);
            Check.due(want, () -> x.then(0, 1, 0));
        }
        // The last byte is a TOKEN, or what is none.
        Check.faultOf(1, 699, Check.times(699, " ") + "#");
        Check.faultOf(1, 700, Check.times(696, " ") + "word");
        Check.faultOf(0, -1, Check.times(691, " ") + "word a 1;");
        Check.faultOf(0, -1, Check.times(700, "\n"));
    }

    private static void moreThanTheTape() {
        GrownWords x = new GrownWords();
        Check.due(Check.WRONG, () -> x.baggage(1));
        Check.due(0, () -> x.baggage(0));
        x.feed(0x20202020, 0x20202020, 0x20202020, 0x20202020, 0x20202020);
        Check.due(Check.WRONG, () -> x.baggage(21));
        Check.due(20, () -> x.count(9));
        Check.due(0, () -> x.baggage(20));
        Check.due(Check.WRONG, () -> x.baggage(20));
        Check.leaves(Check::rich, Check.WRONG, Check.NO_STATUS, x2 -> x2.baggage(41));
        Check.leaves(Check::rich, Check.WRONG, Check.NO_STATUS, x2 -> x2.baggage(700));
        Check.leaves(Check::rich, Check.WRONG, Check.NO_STATUS, x2 -> x2.baggage(Integer.MAX_VALUE));
    }

    private static void fewerThanNone() {
        Check.leaves(Check::rich, Check.WRONG, Check.NO_STATUS, x -> x.baggage(-1));
        Check.leaves(Check::rich, Check.WRONG, Check.NO_STATUS, x -> x.baggage(Integer.MIN_VALUE));
        GrownWords x = new GrownWords();
        Check.due(Check.WRONG, () -> x.baggage(-1));
        Check.due(0, () -> x.baggage(0));
    }

    private static void firstBytes() {
        GrownWords x = new GrownWords();
        Check.feedAll(x, "word a 1;word b 2;  ");
        Check.due(0, () -> x.baggage(9));
        Check.due(1, () -> x.count(0));
        Check.due(0, () -> x.count(9));
        Check.due(Check.WRONG, () -> x.baggage(1));
        Check.feedAll(x, "word a 1;word b 2;  ");
        Check.due(0, () -> x.baggage(0));
        Check.due(0, () -> x.count(0));
        Check.due(0, () -> x.count(9));
        // A TOKEN ends where the text does.
        Check.feedAll(x, "word abcdefghi 12;##");
        Check.due(1, () -> x.baggage(13));
        Check.due(13, () -> x.fault());
        Check.due(0, () -> x.count(9));
        Check.feedAll(x, "word abcdefgh 12;");
        Check.due(1, () -> x.baggage(15));
        Check.due(15, () -> x.fault());
        Check.feedAll(x, "words abc 1;");
        Check.due(1, () -> x.baggage(4));
        Check.due(4, () -> x.fault());
    }

    private static void place() {
        GrownWords x = new GrownWords();
        Check.due(-1, () -> x.fault());
        Check.due(1, () -> Check.tell(x, "#"));
        Check.due(0, () -> x.fault());
        Check.due(2, () -> Check.tell(x, "word a 99;"));
        Check.due(7, () -> x.fault());
        Check.due(Check.WRONG, () -> x.baggage(1));
        Check.due(Check.WRONG, () -> x.baggage(-1));
        Check.due(7, () -> x.fault());
        x.image();
        Check.due(1, () -> Check.tell(x, "heat 7"));
        Check.due(6, () -> x.fault());
        Check.due(1, () -> x.restore() ? 1 : 0);
        Check.due(6, () -> x.fault());
        Check.due(0, () -> x.baggage(0));
        Check.due(-1, () -> x.fault());
    }

    private static void lastCall() {
        GrownWords x = new GrownWords();
        Check.feedAll(x, "word abcd 1;trunk 0 0 4;");
        x.baggage(24);
        // So far two feeds, what asks for the tape's size ahead of them, and this: 4 calls.
        for (int call = 5; call <= 511; call++) {
            int day = (call - 4) / 2;
            if (call % 2 == 0) {
                Check.due(day, () -> x.days(1));
            } else {
                Check.due(day > 0 ? 1 : 0, () -> x.turn(0));
            }
        }
        Check.due(40, () -> x.count(7));
    }

    // ---- LINES

    private static void noLine() {
        Check.faultAt(0, "");
        Check.faultAt(0, " ");
        Check.faultAt(0, "word a 1;");
        GrownWords x = Check.told("");
        Check.due(0, () -> x.count(0));
        Check.due(0, () -> x.count(1));
    }

    private static void eightWords() {
        GrownWords x = Check.told(EIGHT_WORDS);
        Check.due(8, () -> x.count(0));
        Check.due(8, () -> x.letter(7, 0));
        Check.due(9, () -> x.word(7, 1));
        Check.due(Check.NO_SUCH, () -> x.word(8, 0));
        GrownWords one = Check.told("word a 1;");
        Check.due(1, () -> one.count(0));
        Check.due(Check.NO_SUCH, () -> one.word(1, 0));
    }

    private static void ninthWord() {
        Check.faultAt(0, EIGHT_WORDS + "trunk 7 0 1;heat 1;");
        Check.faultAt(2, EIGHT_WORDS + "@word i 1;");
        Check.faultAt(2, EIGHT_WORDS + "heat 1; @word");
        Check.faultAt(2, EIGHT_WORDS + "@word a 1;");
        Check.faultAt(2, EIGHT_WORDS + "@word #");
        Check.faultAt(1, EIGHT_WORDS + "@wordi 1;");
        Check.faultAt(4, EIGHT_WORDS.substring(0, 63) + "word @a 1;word i 1;");
    }

    private static void lettersOfAWord() {
        GrownWords x = Check.told("word a 1;word abcdefgh 1;");
        Check.due(1, () -> x.word(0, 0));
        Check.due(8, () -> x.word(1, 0));
        Check.due(8, () -> x.letter(1, 7));
        Check.faultAt(1, "word @5;");
        Check.faultAt(1, "word @;");
    }

    private static void nineLetters() {
        Check.faultAt(0, "word abcdefgh 1;");
        Check.faultAt(2, "word @abcdefghi 1;");
        Check.faultAt(2, "word @abcdefghi");
        Check.faultAt(2, "word abcdefgh 1;word @abcdefgha 1;");
        Check.faultAt(2, "word @" + Check.times(600, "z"));
    }

    private static void firstAndLastLetter() {
        GrownWords x = Check.told("word az 1;");
        Check.due(1, () -> x.letter(0, 0));
        Check.due(26, () -> x.letter(0, 1));
        // ` and { stand beside a and z.
        Check.faultAt(1, "word a@` 1;");
        Check.faultAt(1, "word z@{ 1;");
        Check.faultAt(1, "word a@A 1;");
        Check.faultAt(1, "word z@Z 1;");
    }

    private static void keyWordsAsLetters() {
        for (String word : KEY_WORDS) {
            GrownWords x = Check.told("word " + word + " 1;trunk 0 0 1;");
            Check.due(word.length(), () -> x.word(0, 0));
            Check.due(word.charAt(0) - 96, () -> x.letter(0, 0));
        }
    }

    private static void sixTrunks() {
        GrownWords x = Check.told(SIX_TRUNKS);
        Check.due(6, () -> x.count(1));
        Check.due(42, () -> x.count(5));
        Check.due(9, () -> x.trunk(5, 2));
        Check.due(Check.NO_SUCH, () -> x.trunk(6, 0));
        GrownWords none = Check.told("word a 1;");
        Check.due(0, () -> none.count(1));
        Check.due(Check.NO_SUCH, () -> none.trunk(0, 0));
    }

    private static void seventhTrunk() {
        Check.faultAt(0, SIX_TRUNKS + "word b 2;grows 1;");
        Check.faultAt(2, SIX_TRUNKS + "@trunk 0 0 1;");
        Check.faultAt(2, SIX_TRUNKS + "@treaty 0 0 1;");
        Check.faultAt(2, SIX_TRUNKS + "@trunk");
        Check.faultAt(2, SIX_TRUNKS + "word b 2;@treaty #");
        Check.faultAt(2, "word a 1;" + Check.times(6, "treaty 0 0 1;") + "@trunk 9 9 99;");
        Check.faultAt(2, "word a 1;" + Check.times(6, "trunk 0 0 1;") + "@treaty 9 9 99;");
    }

    private static void sameWordTwice() {
        GrownWords x = Check.told("word abc 1;trunk 0 0 5;");
        Check.due(0, () -> x.trunk(0, 0));
        Check.due(0, () -> x.trunk(0, 1));
        Check.due(6, () -> x.trunk(0, 5));
        Check.due(1, () -> x.word(0, 4));
    }

    private static void heats() {
        Check.faultAt(1, "heat@;");
        Check.faultAt(1, "heat @a;");
        GrownWords one = Check.told("heat 7;");
        Check.due(7, () -> one.count(3));
        one.days(1);
        Check.due(7, () -> one.count(3));
        GrownWords x = Check.told("heat 1 2 3 4 5 6 7 8;");
        for (int day = 0; day <= 8; day++) {
            Check.due(day % 8 + 1, () -> x.count(3));
            x.days(1);
        }
    }

    private static void ninthHeat() {
        Check.faultAt(0, "heat 1 2 3 4 5 6 7 8;");
        Check.faultAt(2, "heat 1 2 3 4 5 6 7 8 @9;");
        Check.faultAt(2, "heat 1 2 3 4 5 6 7 8 @9 10 11;");
        Check.faultAt(2, "heat 1 2 3 4 5 6 7 8 @10;");
        Check.faultAt(2, "heat 1 2 3 4 5 6 7 8 @00000;");
        Check.faultAt(1, "heat 1 2 3 4 5 6 7 8 @heat;");
        Check.faultAt(1, "heat 1 2 3 4 5 6 7 8@");
        Check.faultAt(2, "heat 1 2 3 4 5 6 7 @10 9;");
    }

    private static void linesThatBreak() {
        Check.faultAt(1, "@a");
        Check.faultAt(1, "@7 a 1;");
        Check.faultAt(1, "@;");
        Check.faultAt(1, "word a 1;@;");
        Check.faultAt(1, "@strap 1;");
        Check.faultAt(1, "@wor a 1;");
        Check.faultAt(1, "@worda 1;");
        Check.faultAt(1, "word a @b 1;");
        Check.faultAt(1, "word a @;");
        Check.faultAt(1, "word a 1 @1;");
        Check.faultAt(1, "word a 1 @word b 1;");
        Check.faultAt(1, "word a @-1;");
        Check.faultAt(1, "word a @+1;");
        Check.faultAt(1, "word a 1;trunk @a 0 1;");
        Check.faultAt(1, "word a 1;trunk @;");
        Check.faultAt(1, "word a 1;trunk 0 @a 1;");
        Check.faultAt(1, "word a 1;trunk 0 @;");
        Check.faultAt(1, "word a 1;treaty 0 0 @a;");
        Check.faultAt(1, "word a 1;treaty 0 0 @;");
        Check.faultAt(1, "word a 1;treaty 0 0 1 @1;");
        Check.faultAt(1, "word a 1;trunk @-0 0 1;");
        Check.faultAt(1, "heat 1 @-2;");
        Check.faultAt(1, "heat 1 @a;");
        Check.faultAt(1, "grows 1 @);");
    }

    private static void endsTooSoon() {
        String[] ends = {
            "word", "word a", "word a 1", "word a 1;trunk", "word a 1;trunk 0", "word a 1;trunk 0 0",
            "word a 1;trunk 0 0 1", "word a 1;treaty 0 0 1", "heat", "heat 1", "heat 1 2 3 4 5 6 7 8", "grows",
            "grows 1", "grows (", "grows (1", "grows (1)", "grows not", "grows 1+", "grows 1 <", "grows 1 < 2",
            "grows 1 or", "grows 1 and", "grows " + Check.times(6, "("), "grows " + Check.times(6, "not ")
        };
        for (String end : ends) {
            Check.faultOf(1, end.length(), end);
            Check.faultOf(1, end.length() + 3, end + " \n ");
        }
        // What stands on the tape behind the text is none of it, be it a blank, or more of the same TOKEN.
        for (int n = 4; n <= 14; n++) {
            int many = n;
            boolean whole = n >= 12;
            GrownWords x = new GrownWords();
            Check.feedAll(x, "word  a  1 ;  word b");
            Check.due(whole ? 0 : 1, () -> x.baggage(many));
            Check.due(whole ? -1 : many, () -> x.fault());
        }
        GrownWords y = new GrownWords();
        Check.feedAll(y, "heat 1234;");
        Check.due(1, () -> y.baggage(6));
        Check.due(6, () -> y.fault());
    }

    // ---- NUMBERS

    private static void firm() {
        GrownWords x = Check.told("word a 0;word b 9;");
        Check.due(0, () -> x.word(0, 1));
        Check.due(9, () -> x.word(1, 1));
        Check.faultAt(2, "word a @10;");
        Check.faultAt(2, "word a @9999;");
        Check.faultAt(1, "word a @-1;");
    }

    private static void strap() {
        GrownWords x = Check.told("word a 0;trunk 0 0 0;treaty 0 0 9;");
        Check.due(0, () -> x.trunk(0, 2));
        Check.due(9, () -> x.trunk(1, 2));
        Check.faultAt(2, "word a 0;trunk 0 0 @10;");
        Check.faultAt(2, "word a 0;treaty 0 0 @9999;");
        Check.faultAt(1, "word a 0;treaty 0 0 @-1;");
    }

    private static void heatNumbers() {
        GrownWords x = Check.told("heat 0 9;");
        Check.due(0, () -> x.count(3));
        x.days(1);
        Check.due(9, () -> x.count(3));
        Check.faultAt(2, "heat @10;");
        Check.faultAt(2, "heat 0 @9999;");
        Check.faultAt(1, "heat @-1;");
        Check.faultAt(1, "heat 0 @-1;");
    }

    private static void digits() {
        GrownWords x = Check.told("word a 0009;word b 00;trunk 0001 0 0003;heat 0008;");
        Check.due(9, () -> x.word(0, 1));
        Check.due(0, () -> x.word(1, 1));
        Check.due(1, () -> x.trunk(0, 0));
        Check.due(3, () -> x.trunk(0, 2));
        Check.due(8, () -> x.count(3));
        grows(2, "9999 - 9997");
        grows(3, "9999 / 3333");
        grows(3, "0003");
        grows(1, "1000 = 999 + 1");
        grows(0, "0");
        grows(1, "1 - 0000");
    }

    private static void fiveDigits() {
        Check.faultAt(0, "word a 0001;");
        Check.faultAt(2, "word a @00001;");
        Check.faultAt(2, "word a @" + Check.times(600, "0") + ";");
        Check.faultAt(2, "word a @99999;");
        Check.faultAt(2, "word a 1;trunk @00000 0 1;");
        Check.faultAt(2, "word a 1;trunk 0 @00000 1;");
        Check.faultAt(2, "word a 1;trunk 0 0 @00001;");
        Check.faultAt(2, "heat @00001;");
        Check.faultAt(2, "heat 1 @00001;");
        Check.faultAt(0, "grows 0001 + 9999;");
        Check.faultAt(2, "grows @00001;");
        Check.faultAt(2, "grows @10000;");
        Check.faultAt(2, "grows 1+@00001;");
        Check.faultAt(2, "grows (@4294967297);");
        Check.faultAt(2, "word a @4294967297;");
    }

    private static void notAsTold() {
        Check.faultAt(2, "word a @10;");
        Check.faultAt(2, "word a @0010;");
        Check.faultAt(2, "word a 1;trunk 0 0 @10;");
        Check.faultAt(2, "heat @10;");
        Check.faultAt(2, "heat 9 @11;");
        Check.faultAt(0, "grows 10;");
        Check.faultAt(0, "grows 9999;");
    }

    private static void wordNotTold() {
        Check.faultAt(3, "trunk @0 0 1;");
        Check.faultAt(3, "trunk @0 0 1;word a 1;");
        Check.faultAt(3, "word a 1;trunk 0 @1 1;word b 1;");
        Check.faultAt(3, "word a 1;trunk @1 0 1;word b 1;");
        Check.faultAt(0, "word a 1;word b 1;trunk 1 0 1;trunk 0 1 1;");
        Check.faultAt(0, EIGHT_WORDS + "trunk 7 7 1;");
        Check.faultAt(3, EIGHT_WORDS + "trunk @8 0 1;");
        Check.faultAt(3, EIGHT_WORDS + "treaty 0 @8 1;");
        Check.faultAt(3, EIGHT_WORDS + "treaty 0 @9999 1;");
    }

    // ---- TOKENS

    private static void longestRow() {
        Check.faultAt(0, "word a1;trunk 0 0 1;heat 1;");
        Check.faultAt(0, "word a1;trunk00 0 1;heat1 2;grows1or not2;");
        Check.faultAt(1, "@worda 1;");
        Check.faultAt(1, "@wo rd a 1;");
        Check.faultAt(1, "word a @b 1;");
        Check.faultAt(2, "heat @12;");
        Check.faultAt(0, "heat 1 2;");
        Check.faultAt(3, "grows @notstrap;");
        Check.faultAt(1, "grows strap @orstrap;");
        Check.faultAt(1, "grows 1 @2;");
        Check.faultAt(0, "grows strap+heat*(day);");
    }

    private static void blanks() {
        Check.faultAt(0, " \n word \n a \n 1 \n ; \n\n ");
        Check.faultAt(0, "\nheat\n1\n2\n;\n");
        GrownWords x = Check.told("  word  ab\n\n1 ;\ntrunk\n0\n0\n4\n;");
        Check.due(1, () -> x.count(0));
        Check.due(2, () -> x.word(0, 0));
        Check.due(4, () -> x.trunk(0, 2));
        int[] others = {0, 9, 11, 12, 13, 31, 33, 127, 128, 160, 255};
        for (int other : others) {
            Check.faultOf(1, 4, "word" + (char) other + "a 1;");
        }
    }

    /** Where a byte of its own can't stand, it is FAULT 1, and a TOKEN that can't, too. */
    private static void everyByteForASign() {
        for (int b = 0; b < 256; b++) {
            boolean fine = b == ' ' || b == '\n' || b >= '0' && b <= '9';
            // A second ; is no LINE.
            int place = b == ';' ? 8 : 7;
            Check.faultOf(fine ? 0 : 1, fine ? -1 : place, "heat 1 " + (char) b + ";");
        }
    }

    private static void everyByteForANumber() {
        for (int b = 0; b < 256; b++) {
            boolean blank = b == ' ' || b == '\n';
            boolean digit = b >= '0' && b <= '9';
            Check.faultOf(digit ? 0 : 1, digit ? -1 : blank ? 8 : 7, "word a " + (char) b + ";");
            Check.faultOf(digit ? 0 : 1, digit ? -1 : blank ? 6 : 5, "heat " + (char) b + ";");
        }
    }

    private static void everyByteForLetters() {
        for (int b = 0; b < 256; b++) {
            boolean blank = b == ' ' || b == '\n';
            boolean letter = b >= 'a' && b <= 'z';
            Check.faultOf(letter ? 0 : 1, letter ? -1 : blank ? 7 : 5, "word " + (char) b + " 1;");
        }
    }

    private static void everyByteForALine() {
        for (int b = 0; b < 256; b++) {
            boolean blank = b == ' ' || b == '\n';
            Check.faultOf(blank ? 0 : 1, blank ? -1 : 0, (char) b + "heat 1;");
        }
    }

    private static void everyByteForAPart() {
        for (int b = 0; b < 256; b++) {
            boolean blank = b == ' ' || b == '\n';
            boolean digit = b >= '0' && b <= '9';
            boolean letter = b >= 'a' && b <= 'z';
            int place = digit ? -1 : blank || b == '(' ? 7 : 6;
            Check.faultOf(digit ? 0 : letter ? 3 : 1, place, "grows " + (char) b + ";");
        }
    }

    private static void everyByteBehindAPart() {
        for (int b = 0; b < 256; b++) {
            boolean sign = "+-*/<=".indexOf(b) >= 0;
            boolean digit = b >= '0' && b <= '9';
            boolean later = b == ' ' || b == '\n' || b == ';';
            boolean fine = sign || digit;
            Check.faultOf(fine ? 0 : 1, fine ? -1 : later ? 8 : 7, "grows 1" + (char) b + "2;");
        }
    }

    // ---- EXPR

    /** How much a trunk of 8 LETTERS, FIRM 2 and 7, STRAP 4, grows by an EXPR on its first day, of HEAT 5. */
    private static void grows(int want, String expr) {
        GrownWords x = Check.told("word abcdefgh 2;word ijklmnop 7;trunk 0 1 4;grows " + expr + ";");
        Check.due(want, () -> x.then(0, 1, 0));
    }

    private static void exprBreaks() {
        Check.faultAt(1, "grows @;");
        Check.faultAt(1, "grows (@);");
        Check.faultAt(1, "grows @);");
        Check.faultAt(1, "grows 1@);");
        Check.faultAt(1, "grows (1@;");
        Check.faultAt(1, "grows ((1)@;");
        Check.faultAt(1, "grows 1 @(2);");
        Check.faultAt(1, "grows (1) @2;");
        Check.faultAt(1, "grows (1) @(2);");
        Check.faultAt(1, "grows 1 @strap;");
        Check.faultAt(1, "grows 1 @not 1;");
        Check.faultAt(1, "grows @- 1;");
        Check.faultAt(1, "grows 1 +@;");
        Check.faultAt(1, "grows 1 + @* 2;");
        Check.faultAt(1, "grows 1 <@;");
        Check.faultAt(1, "grows 1 or@;");
        Check.faultAt(1, "grows 1 and@;");
        Check.faultAt(1, "grows not@;");
        Check.faultAt(1, "grows not @+ 1;");
        Check.faultAt(1, "grows 1 or @);");
        Check.faultAt(1, "grows 1 @foo;");
        Check.faultAt(1, "grows 1 @word a 1;");
        grows(3, "((1) + (2)) * (3)");
    }

    private static void oneTestAlone() {
        grows(1, "1 < 2");
        grows(1, "2 = 2");
        grows(0, "2 < 2");
        grows(0, "3 < 2");
        Check.faultAt(1, "grows 1 < 2 @< 3;");
        Check.faultAt(1, "grows 1 < 2 @= 3;");
        Check.faultAt(1, "grows 1 = 2 @< 3;");
        Check.faultAt(1, "grows 1 = 2 @= 3;");
        Check.faultAt(1, "grows 1 < 2 + 3 * 4 @= 3;");
        Check.faultAt(1, "grows 1 or not (1 = 2) = 3 @= 3;");
        Check.faultAt(0, "grows 1 = 2 or 1 < 2 and 3 = 4;");
        Check.faultAt(0, "grows (1 < 2) < (3 = 4);");
        Check.faultAt(1, "grows 1 <@< 2;");
        Check.faultAt(1, "grows 1 <@= 2;");
    }

    /** 9999 * 9999 is 99980001; 21 of them and 47903626 are the greatest int. */
    private static final String GREATEST = "(9999*9999*21 + 9999*4790 + 8416)";
    private static final String LEAST = "(0 - 9999*9999*21 - 9999*4790 - 8416 - 1)";

    private static void wraps() {
        grows(0, GREATEST + " < 0");
        grows(1, GREATEST + " - 1 < " + GREATEST);
        grows(1, GREATEST + " + 1 = " + LEAST);
        grows(1, LEAST + " < 0");
        grows(1, LEAST + " - 1 = " + GREATEST);
        grows(1, GREATEST + " * 2 + 2 = 0");
        grows(1, LEAST + " * 2 = 0");
        grows(1, "0 - " + LEAST + " = " + LEAST);
        grows(1, LEAST + " < " + GREATEST);
        grows(0, GREATEST + " < " + LEAST);
        // 2^31, and 2^32.
        grows(1, "8192*8192*32 = " + LEAST);
        grows(1, "8192*8192*64 = 0");
        // From the left.
        grows(2, "9 - 4 - 3");
        grows(2, "12 / 3 / 2");
        grows(2, "7 / 2 * 2 - 4");
        // What grows is kept to 0 to 3 also at the ends of all ints.
        grows(3, GREATEST);
        grows(0, LEAST);
    }

    private static void cutDown() {
        grows(2, "8 / 3");
        grows(0, "2 / 3");
        grows(1, "(0-8) / 3 = 0-2");
        grows(1, "8 / (0-3) = 0-2");
        grows(2, "(0-8) / (0-3)");
        grows(1, "(0-2) / 3 = 0");
        grows(1, LEAST + " / (0-1) = " + LEAST);
        grows(1, LEAST + " / " + LEAST);
        grows(1, GREATEST + " / (0-1) = " + LEAST + " + 1");
    }

    private static void byZero() {
        grows(0, "7 / 0");
        grows(0, "0 / 0");
        grows(2, "7 / (strap - 4) + 2");
        grows(1, LEAST + " / 0 = 0");
        grows(3, "3 / 1");
        grows(1, "3 / (0-1) = 0-3");
    }

    private static void holds() {
        grows(1, "7 or 0");
        grows(1, "0 or (0-1)");
        grows(0, "0 or 0");
        grows(1, "2 and (0-3)");
        grows(0, "2 and 0");
        grows(0, "0 and 2");
        grows(0, "not 2");
        grows(0, "not (0-2)");
        grows(1, "not 0");
        grows(1, "not not 9");
        grows(1, LEAST + " and " + GREATEST);
        grows(2, "(1 or 1) + (1 and 1)");
        grows(2, "(3 < 4) + (4 = 4) + (4 < 4) + (3 = 4)");
        grows(0, "not 1 < 2");
        grows(1, "1 or 1 and 0");
        grows(1, "0 and 0 or 1");
        grows(0, "not 0 and 0");
        grows(1, "not 1 or 1");
    }

    private static void deepest() {
        Check.faultAt(0, "grows " + Check.times(5, "(") + "1" + Check.times(5, ")") + ";");
        String six = Check.times(6, "(");
        Check.faultAt(2, "grows " + six + "@1" + Check.times(6, ")") + ";");
        Check.faultAt(2, "grows " + six + "@10000;");
        Check.faultAt(2, "grows " + six + "@strap");
        Check.faultAt(2, "grows " + six + "@foo");
        Check.faultAt(2, "grows " + six + "@not 1");
        Check.faultAt(2, "grows " + six + "@or");
        Check.faultAt(2, "grows " + six + "@(");
        Check.faultAt(1, "grows " + six + "@)");
        Check.faultAt(1, "grows " + six + "@+");
        Check.faultAt(1, "grows " + six + "@;");
        Check.faultAt(1, "grows " + six + "@#");
        Check.faultAt(1, "grows " + six + "@");
        // Also where what is between makes no difference, and behind parentheses that are closed.
        Check.faultAt(2, "grows 1+(2*(not (3<(4 or (5 and (@6))))));");
        Check.faultAt(0, "grows 1+(2*(not (3<(4 or (5 and 6)))));");
        String five = Check.times(5, "(") + "1" + Check.times(5, ")");
        Check.faultAt(0, "grows " + five + "+" + five + "<" + five + ";");
        Check.faultAt(2, "grows " + five + "+" + six + "@1;");
        Check.faultAt(2, "grows (((((1)+(1))+(((@1");
        grows(3, Check.times(5, "(") + "1" + Check.times(5, ")") + " * 3");
    }

    private static void seventhNot() {
        String six = Check.times(6, "not ");
        grows(1, six + "1");
        grows(0, six + "0");
        grows(0, Check.times(5, "not ") + "1");
        Check.faultAt(2, "grows " + six + "@not 1;");
        Check.faultAt(2, "grows " + six + "@not;");
        Check.faultAt(2, "grows (" + six + "@not 1);");
        Check.faultAt(2, "grows 1 or " + six + "@not 1;");
        Check.faultAt(2, "grows 1 and " + six + "@not 1;");
        // Not side by side.
        Check.faultAt(0, "grows " + six + "1 or " + six + "1 and " + six + "1;");
        Check.faultAt(0, "grows " + six + "(" + six + "1);");
        Check.faultAt(0, "grows " + six + "(" + six + "1) and not 1;");
        // No FAULT of its own stands behind six.
        Check.faultAt(3, "grows " + six + "@nor;");
        Check.faultAt(1, "grows " + six + "@;");
    }

    private static void noValue() {
        String[] values = {"strap", "heat", "grown", "said", "meant", "overlap", "day"};
        for (String value : values) {
            Check.faultAt(0, "grows " + value + ";");
            Check.faultAt(3, "grows @" + value + "s;");
            Check.faultAt(3, "grows @" + value.substring(1) + ";");
            Check.faultAt(3, "grows @x" + value.substring(1) + ";");
            Check.faultAt(3, "grows @" + value.substring(0, value.length() - 1) + ";");
        }
        String[] others = {"or", "and", "word", "trunk", "treaty", "grows", "z", Check.times(300, "a")};
        for (String other : others) {
            Check.faultAt(3, "grows @" + other + ";");
            Check.faultAt(3, "grows (@" + other + ";");
            Check.faultAt(3, "grows not @" + other + ";");
            Check.faultAt(3, "grows 1 or @" + other + ";");
            Check.faultAt(3, "grows 1 < @" + other + ";");
            Check.faultAt(3, "grows 1 - @" + other + ";");
            Check.faultAt(3, "grows 1 / @" + other + ";");
        }
        // Where a PART alone can stand, 'not' is a word as any other.
        Check.faultAt(3, "grows 1 < @not 1;");
        Check.faultAt(3, "grows 1 = @not 1;");
        Check.faultAt(3, "grows 1 + @not 1;");
        Check.faultAt(3, "grows 1 * @not 1;");
        Check.faultAt(3, "grows not 1 + @not 1;");
    }

    // ---- FAULTS

    private static void firstFault() {
        Check.faultAt(2, "word a @99;word a 1;#");
        Check.faultAt(4, "word a 1;word @a 99;#");
        Check.faultAt(3, "word a 1;trunk @5 0 99;#");
        Check.faultAt(5, "heat 1;@heat #");
        Check.faultAt(5, "grows 1;@grows foo;");
        Check.faultAt(1, "word a @#;word a 1;");
        Check.faultAt(3, "grows 1 + @foo + 12345;");
        Check.faultAt(2, "grows 1 + @12345 + foo;");
    }

    private static void leastFault() {
        // Too many digits where no NUMBER can stand; of a WORD that isn't told; of a 9th HEAT.
        Check.faultAt(1, "word a 1 @12345;");
        Check.faultAt(1, "@12345");
        Check.faultAt(1, "word @12345 1;");
        Check.faultAt(1, "grows 1 @12345;");
        Check.faultAt(2, "word a 1;trunk @12345 0 1;");
        Check.faultAt(2, "heat 1 2 3 4 5 6 7 8 @12345;");
        // A word that is no VALUE, but too deep; one that can't stand there.
        Check.faultAt(2, "grows ((((((@foo;");
        Check.faultAt(1, "grows 1 @foo;");
        // The seventh 'not' is a word as well.
        Check.faultAt(2, "grows not not not not not not @not 1;");
    }

    private static void firstByte() {
        Check.faultAt(2, "word   @abcdefghi 1;");
        Check.faultAt(2, "word a   @00001;");
        Check.faultAt(4, "word abc 1;\n\nword\n@abc 1;");
        Check.faultAt(5, "heat 1; \n@heat 1;");
        Check.faultAt(3, "grows  @foo ;");
        Check.faultAt(1, "word a 1 \n @b;");
        Check.faultAt(2, "grows ((((((  @12345;");
    }

    private static void toldAhead() {
        Check.faultAt(4, "word a 1;word @a 2;");
        Check.faultAt(4, "word abcdefgh 1;word @abcdefgh 1;");
        Check.faultAt(4, "word a 1;word b 1;word @b 1;");
        Check.faultAt(4, "word a 1;word b 1;word @a 1;");
        Check.faultAt(4, EIGHT_WORDS.substring(0, 63) + "word @g 1;");
        // Others by one LETTER, more, fewer, in another order.
        Check.faultAt(0, "word ab 1;word aa 1;word bb 1;word a 1;word abc 1;word ba 1;word cab 1;");
        GrownWords x = Check.told("word ab 1;");
        Check.due(0, () -> Check.tell(x, "word ab 2;"));
        Check.due(2, () -> x.word(0, 1));
    }

    private static void second() {
        Check.faultAt(5, "heat 1;@heat 1;");
        Check.faultAt(5, "heat 1;word a 1;grows 1;@heat");
        Check.faultAt(5, "grows 1;@grows 1;");
        Check.faultAt(5, "grows 0;heat 1;@grows");
        Check.faultAt(1, "heat 1 @heat 1;");
        Check.faultAt(0, "heat 1;grows 1;word heat 1;word grows 1;");
        GrownWords x = Check.told("heat 1;grows 1;");
        Check.due(0, () -> Check.tell(x, "heat 2;grows 2;"));
        Check.due(0, () -> Check.tell(x, "grows 2;heat 2;"));
    }

    // ---- BAGGAGE

    private static void allAnew() {
        GrownWords x = new GrownWords();
        String much = EIGHT_WORDS.replace("a 0", "abcdefgh 0") + Check.times(6, "treaty 0 0 0;") + "heat 9 0;grows 3;";
        // Whatever is told, and as often as it is told, nothing of it is left behind the next text.
        for (int k = 0; k < 3; k++) {
            // Twice, so that whatever the object reads a text into has held it.
            Check.due(0, () -> Check.tell(x, much));
            Check.due(0, () -> Check.tell(x, much));
            x.days(1);
            Check.due(6 * 16 - 36, () -> x.count(6));
            Check.due(0, () -> Check.tell(x, "word ab 1;word ca 1;trunk 0 0 4;"));
            Check.due(2, () -> x.count(0));
            Check.due(1, () -> x.count(1));
            Check.due(0, () -> x.count(2));
            Check.due(5, () -> x.count(3));
            Check.due(0, () -> x.count(5));
            Check.due(0, () -> x.trunk(0, 3));
            Check.due(0, () -> x.trunk(0, 6));
            Check.due(4, () -> x.count(6));
            Check.due(2, () -> x.word(0, 0));
            Check.due(Check.NO_SUCH, () -> x.letter(0, 2));
            Check.due(Check.NO_SUCH, () -> x.letter(2, 0));
            Check.due(Check.NO_SUCH, () -> x.letter(7, 0));
            Check.due(Check.NO_SUCH, () -> x.word(2, 0));
            Check.due(Check.NO_SUCH, () -> x.trunk(1, 0));
            Check.due(3, () -> x.row(-1));
            Check.due(1, () -> x.row(0));
            Check.due(2, () -> x.chain(-1));
            Check.due(Check.NO_SUCH, () -> x.row(2));
            Check.due(1, () -> x.then(0, 1, 0));
            Check.due(0, () -> x.baggage(0));
            Check.due(0, () -> x.count(0));
            Check.due(0, () -> x.row(-1));
            Check.due(0, () -> x.chain(-1));
            Check.due(0, () -> Check.tell(x, "word a 1;trunk 0 0 5;"));
            Check.due(0, () -> x.then(0, 60, 0));
            Check.due(1, () -> x.row(-1));
        }
    }

    /** Tells the first text twice, so that whatever the object reads a text into has held it, then the other one. */
    private static GrownWords toldBehind(String first, String text) {
        GrownWords x = Check.told(first);
        Check.due(0, () -> Check.tell(x, first));
        Check.due(0, () -> Check.tell(x, text));
        return x;
    }

    private static void anewBehindLongerWords() {
        // A third WORD that is no more would be the nearest, and hold ab; another one would be an ANAGRAM.
        GrownWords x = toldBehind("word x 1;word y 1;word abab 1;trunk 0 0 1;", "word ab 1;word ca 1;trunk 0 0 9;");
        Check.due(0, () -> x.then(0, 0, 2));
        Check.due(2, () -> x.then(0, 0, 3));
        Check.due(1, () -> x.word(0, 2));
        Check.due(Check.NO_SUCH, () -> x.read(0, 2));
        Check.due(Check.NO_SUCH, () -> x.both(0, 2, 0));
        Check.due(Check.NO_SUCH, () -> x.pack(0, 0, 2));
        GrownWords y = toldBehind("word x 1;word y 1;word ba 1;", "word ab 1;word ca 1;");
        Check.due(1, () -> y.word(0, 3));
        // LETTERS that are no more.
        GrownWords z = toldBehind("word abc 1;word xyz 1;", "word ab 1;word ba 1;");
        Check.due(3, () -> z.word(0, 3));
        Check.due(1, () -> z.both(0, 1, 0));
        Check.due(Check.NO_SUCH, () -> z.letter(0, 2));
        GrownWords w = toldBehind("word abcd 1;word x 1;", "word abc 1;word abcd 1;");
        Check.due(3, () -> w.both(0, 1, 2));
        Check.due(1, () -> w.both(0, 1, 1));
        Check.due(0, () -> w.both(0, 1, 0));
        Check.due(3, () -> w.word(0, 2));
        Check.due(2, () -> w.word(1, 2));
    }

    private static void anewBehindLongerRows() {
        String ring = "word ha 1;word gh 1;word fg 1;word ef 1;word de 1;word cd 1;word bc 1;word ab 1;";
        GrownWords x = toldBehind(ring, "word ab 1;word cd 1;word ef 1;");
        Check.due(6, () -> x.row(-1));
        Check.due(1, () -> x.chain(-1));
        Check.due(0, () -> x.chain(0));
        for (int i = 0; i < 3; i++) {
            int place = i;
            Check.due(place, () -> x.row(place));
        }
        GrownWords y = toldBehind(ring, "word bc 1;word ab 1;");
        Check.due(3, () -> y.row(-1));
        Check.due(2, () -> y.chain(-1));
        for (int i = 0; i < 2; i++) {
            int place = i;
            Check.due(1 - place, () -> y.row(place));
            Check.due(1 - place, () -> y.chain(place));
        }
        String trunk = "word abc 1;trunk 0 0 4;";
        String[] longer = {"not 0", "1 + 1 + 1", "1 or 0", "3 - 2 - 1", "not not 1"};
        for (String expr : longer) {
            GrownWords z = toldBehind(trunk + "grows " + expr + ";", trunk + "grows 2;");
            Check.due(2, () -> z.then(0, 1, 0));
            GrownWords none = toldBehind(trunk + "grows " + expr + " + 2;", trunk);
            Check.due(1, () -> none.then(0, 1, 0));
        }
        GrownWords hot = toldBehind(trunk + "heat 1 2 3 4 5 6 7 8;", trunk + "heat 9 0;");
        for (int day = 0; day < 9; day++) {
            Check.due(day % 2 == 0 ? 9 : 0, () -> hot.count(3));
            hot.days(1);
        }
    }

    private static void anewBehindAFault() {
        String[] broken = {
            "grows (((((1", "grows " + Check.times(6, "not "), "grows not (not (not (", "grows ((((((1", "heat 1 2 3 10;",
            "word abcdefgh 10;", "word a 1;trunk 0 0 10;", "grows 1 or 1 and 1 < 1 + 1 * (1 or 1 and 1 < 1 + 1 *",
            "grows 1 < 2 < 3;", "word a 1;word a 1;", "heat 1;heat 1;", "grows 3;grows 3;", "grows 12345;", "grows foo;"
        };
        String five = Check.times(5, "(") + "0" + Check.times(5, ")");
        String text = "word a 2;word ab 3;trunk 1 1 0;heat 1;grows " + Check.times(6, "not ") + five + " or day = 1 and "
            + five + " < 2;";
        for (String fault : broken) {
            GrownWords x = new GrownWords();
            for (int k = 0; k < 3; k++) {
                Check.due(1, () -> Check.tell(x, fault) > 0 ? 1 : 0);
                Check.due(0, () -> Check.tell(x, text));
                Check.due(2, () -> x.count(0));
                Check.due(1, () -> x.count(1));
                Check.due(2, () -> x.word(0, 1));
                Check.due(0, () -> x.then(0, 1, 0));
                Check.due(1, () -> x.then(0, 2, 0));
                Check.due(1, () -> x.count(3));
                Check.due(1, () -> x.word(0, 0));
            }
        }
    }

    private static void manyFaults() {
        String[] broken = {"grows (((((", "grows ((((((", "grows 1+(1+(1+(", "grows not not not"};
        String deep = Check.times(5, "(1*") + "2" + Check.times(5, ")");
        for (String fault : broken) {
            GrownWords x = new GrownWords();
            for (int k = 0; k < 100; k++) {
                Check.tell(x, fault);
            }
            Check.due(100, () -> x.count(10));
            Check.due(0, () -> Check.tell(x, "word abc 1;trunk 0 0 9;grows " + deep + ";"));
            Check.due(2, () -> x.then(0, 1, 0));
        }
    }

    private static void statusStays() {
        GrownWords x = new GrownWords();
        Check.rich(x);
        Check.due(2, () -> x.count(10));
        Check.due(1, () -> x.count(11));
        Check.due(1, () -> x.count(12));
        Check.due(0, () -> x.baggage(35));
        Check.due(2, () -> x.count(10));
        Check.due(1, () -> x.count(11));
        Check.due(1, () -> x.count(12));
        Check.due(2, () -> x.count(0));
        Check.due(1, () -> x.count(1));
    }

    private static void allElseStays() {
        String[] texts = {"#", "word a 10;", "trunk 0 0 1;", "word smoke 1;word smoke 1;", "heat 1;heat 2;", "word a 1;heat"};
        int[] kinds = {1, 2, 3, 4, 5, 1};
        int[] places = {0, 7, 6, 18, 7, 13};
        for (int i = 0; i < texts.length; i++) {
            // The FAULT's place is the one of the FAULT ahead of it.
            String text = Check.times(40 - places[i], " ") + texts[i];
            Check.leaves(Check::used, kinds[i], 0, x -> Check.tell(x, text));
        }
    }

    private static void gone() {
        GrownWords x = new GrownWords();
        Check.rich(x);
        Check.due(1, () -> x.restore() ? 1 : 0);
        Check.due(3, () -> x.count(7));
        Check.due(1, () -> x.count(8));
        Check.due(0, () -> x.baggage(x.count(9) - 5));
        Check.due(0, () -> x.count(7));
        Check.due(-1, () -> x.undo());
        Check.due(0, () -> x.count(8));
        Check.due(1, () -> x.loose(2));
        Check.due(0, () -> x.restore() ? 1 : 0);
        Check.due(0, () -> x.count(2));
    }
}
