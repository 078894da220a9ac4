/** A test for each sentence on TRUNKS, DAYS and ACTS that names a boundary case (promises 5 to 14). */
public final class BoundaryTrunkTests {
    /** smoke+fog, keg+fog (a treaty), fog+gof; HEAT 6 and 3 by turns. */
    private static final String SMOKE = "word smoke 3;word fog 5;word keg 1;word gof 2;"
        + "trunk 0 1 4;treaty 2 1 2;trunk 1 3 9;heat 6 3;";
    private static final String LONG = "word abcdefgh 2;word ijklmnop 7;";
    private static final int FIRST_DAYS = 49;

    public static void main(String[] args) {
        growth();
        tells();
        daysAndStraps();
        otherActs();
        kept();
        Check.end();
    }

    private static void growth() {
        Check.sentence("that of a DAY by DAY MOD how many (always 5 without)", BoundaryTrunkTests::heatOfADay);
        Check.sentence("A TRUNK is GROWN so much (0 at first)", BoundaryTrunkTests::grownAtFirst);
        Check.sentence("it is FULL as many as the lesser of both WORDS has LETTERS", BoundaryTrunkTests::fullAsTheLesser);
        Check.sentence("as half of GROWN is, rounded up, then .. cut down", BoundaryTrunkTests::halves);
        Check.sentence("kept to 0 to 3", BoundaryTrunkTests::keptToThree);
        Check.sentence("without it 1, if HEAT of that DAY is above the STRAP, else 0", BoundaryTrunkTests::aboveTheStrap);
        Check.sentence("a TREATY twice so much, but FULL at most", BoundaryTrunkTests::fullAtMost);
        Check.sentence("by what is so at its turn", BoundaryTrunkTests::atItsTurn);
        Check.sentence("VALUES of a TRUNK: 'strap', 'heat', 'grown', 'said', 'meant', 'overlap', 'day'",
            BoundaryTrunkTests::values);
        Check.sentence("The DAY is one more then.", BoundaryTrunkTests::oneDayMore);
    }

    private static void tells() {
        Check.sentence("count: 0 WORDS .. 10 to 12 STATUS 0 to 2", BoundaryTrunkTests::countsOfAll);
        Check.sentence("count: NoSuchElementException: another what.", BoundaryTrunkTests::countOfAnother);
        Check.sentence("word: NoSuchElementException: no such WORD (as everywhere), what.", BoundaryTrunkTests::noSuchWord);
        Check.sentence("4 TRUNKS in which it is packed (bits)", BoundaryTrunkTests::packedIn);
        Check.sentence("letter: NoSuchElementException: there is none.", BoundaryTrunkTests::noSuchLetter);
        Check.sentence("trunk: NoSuchElementException: no such TRUNK (as everywhere), what.", BoundaryTrunkTests::noSuchTrunk);
        Check.sentence("6 whether a TREATY (1)", BoundaryTrunkTests::whetherATreaty);
    }

    private static void daysAndStraps() {
        Check.sentence("DAYS go by (1 to 20)", BoundaryTrunkTests::oneToTwentyDays);
        Check.sentence("days: NONE (STATUS 1): not 1 to 20", BoundaryTrunkTests::notOneToTwenty);
        Check.sentence("it would be above 999", BoundaryTrunkTests::lastDay);
        Check.sentence("a STRAP is DRAWN (0 to 9)", BoundaryTrunkTests::straps);
        Check.sentence("draw: NONE (STATUS 1): not 0 to 9", BoundaryTrunkTests::noStrap);
        Check.sentence("draw: it is so", BoundaryTrunkTests::strapIsSo);
        Check.sentence("draw: NoSuchElementException", BoundaryTrunkTests::drawOfNone);
    }

    private static void otherActs() {
        Check.sentence("is PULLED: GROWN is 1 to 9 less (0 at least)", BoundaryTrunkTests::pulls);
        Check.sentence("pull: NONE (STATUS 1): not 1 to 9", BoundaryTrunkTests::pullTooMuch);
        Check.sentence("pull: not GROWN", BoundaryTrunkTests::pullNotGrown);
        Check.sentence("pull: FULL", BoundaryTrunkTests::pullFull);
        Check.sentence("pull: a TREATY", BoundaryTrunkTests::pullATreaty);
        Check.sentence("pull: NoSuchElementException", BoundaryTrunkTests::pullOfNone);
        Check.sentence("one (GROWN or not, a TREATY, too) is TURNED", BoundaryTrunkTests::turns);
        Check.sentence("turn: NoSuchElementException", BoundaryTrunkTests::turnOfNone);
        Check.sentence("in its one half (0: SAID, 1: MEANT; it may be in the other half, too)", BoundaryTrunkTests::packs);
        Check.sentence("pack: NONE (STATUS 1): it is that one.", BoundaryTrunkTests::packsTheSame);
        Check.sentence("NoSuchElementException (ahead): no such TRUNK, half, WORD.", BoundaryTrunkTests::packOfNone);
    }

    private static void kept() {
        Check.sentence("ACTS (at most 40 are kept, the latest ones", BoundaryTrunkTests::fortyActs);
        Check.sentence("what its call doesn't refuse is one, also where all is as it was", BoundaryTrunkTests::allAsItWas);
        Check.sentence("They are UNDONE, the last one first.", BoundaryTrunkTests::lastOneFirst);
        Check.sentence("They are UNDONE: of six TRUNKS each.", BoundaryTrunkTests::sixTrunksUndone);
        Check.sentence("The last ACT is UNDONE: how many are left.", BoundaryTrunkTests::undoesActsAlone);
        Check.sentence("undo: NONE: there is none.", BoundaryTrunkTests::noAct);
    }

    // ---- how TRUNKS grow

    private static void toDay(GrownWords x, int day) {
        while (x.count(2) < day) {
            x.days(Math.min(20, day - x.count(2)));
        }
    }

    private static void heatOfADay() {
        GrownWords none = Check.told("word abcdefgh 2;trunk 0 0 4;trunk 0 0 5;");
        Check.due(5, () -> none.count(3));
        Check.due(1, () -> none.then(0, 1, 0));
        Check.due(0, () -> none.then(1, 60, 0));
        toDay(none, 999);
        Check.due(5, () -> none.count(3));
        GrownWords x = Check.told("heat 1 2 3 4 5 6 7 8;");
        int[] days = {0, 7, 8, 15, 16, 998, 999};
        for (int day : days) {
            toDay(x, day);
            Check.due(day % 8 + 1, () -> x.count(3));
        }
        // Also ahead of now, behind the last DAY: DAY 999 is 3 of 6 then, 1001 is 5.
        GrownWords y = Check.told("word abcdefgh 2;trunk 0 0 4;heat 0 0 0 0 0 5;");
        toDay(y, 999);
        int grown = y.trunk(0, 3);
        Check.due(8, () -> grown);
        GrownWords z = Check.told("word abcdefgh 2;trunk 0 0 4;heat 0 0 0 0 0 5;");
        z.draw(0, 9);
        toDay(z, 999);
        z.draw(0, 4);
        Check.due(0, () -> z.then(0, 2, 0));
        Check.due(1, () -> z.then(0, 3, 0));
        Check.due(1, () -> z.then(0, 8, 0));
        Check.due(2, () -> z.then(0, 9, 0));
    }

    private static void grownAtFirst() {
        GrownWords x = Check.told("word a 1;" + Check.times(6, "trunk 0 0 0;"));
        for (int t = 0; t < 6; t++) {
            int trunk = t;
            Check.due(0, () -> x.trunk(trunk, 3));
        }
        Check.due(0, () -> x.count(4));
        Check.due(12, () -> x.count(6));
    }

    private static void fullAsTheLesser() {
        GrownWords x = Check.told("word a 1;word abcdefgh 2;word abcdefg 3;trunk 0 1 0;trunk 1 0 0;trunk 1 1 0;trunk 1 2 0;"
            + "trunk 2 1 0;trunk 0 0 0;");
        int[] full = {1, 1, 8, 7, 7, 1};
        int[] letters = {9, 9, 16, 15, 15, 2};
        for (int t = 0; t < 6; t++) {
            int trunk = t;
            Check.due(full[t], () -> x.trunk(trunk, 4));
            Check.due(letters[t], () -> x.trunk(trunk, 5));
            Check.due(full[t], () -> x.full(trunk));
            Check.due(full[t], () -> x.then(trunk, 60, 0));
        }
        // FULL at once with the last LETTER: not one ahead.
        x.days(7);
        Check.due(5, () -> x.count(4));
        x.days(1);
        Check.due(6, () -> x.count(4));
        Check.due(63, () -> x.later(0, 0));
        Check.due(8 + 8 + 8 + 8 + 8 + 1, () -> x.count(6));
    }

    private static void halves() {
        String[] blends = {"abcdefghijklmnop", "abcdefgijklmnop", "abcdefgjklmnop", "abcdefjklmnop", "abcdefklmnop",
            "abcdeklmnop", "abcdelmnop", "abcdlmnop", "abcdmnop", "abcdmnop"};
        GrownWords x = Check.told(LONG + "trunk 0 1 4;");
        for (int days = 0; days < blends.length; days++) {
            spells(x, days, blends[days]);
        }
        // Of a WORD of one LETTER the whole is left out, if it is SAID; else none of it.
        GrownWords y = Check.told("word a 1;word bc 1;trunk 0 1 0;");
        spells(y, 0, "abc");
        spells(y, 1, "bc");
        GrownWords z = Check.told("word a 1;word bc 1;trunk 1 0 0;");
        spells(z, 0, "bca");
        spells(z, 1, "ba");
        spells(z, 60, "ba");
    }

    private static void spells(GrownWords x, int days, String blend) {
        Check.due(blend.length(), () -> x.then(0, days, 1));
        for (int i = 0; i < blend.length(); i++) {
            int place = i;
            Check.due(blend.charAt(i) - 96, () -> x.blend(0, place, days));
        }
        Check.due(-1, () -> x.blend(0, blend.length(), days));
    }

    private static void keptToThree() {
        String[] exprs = {"0 - 9999 * 9999", "0 - 1", "0", "1", "2", "3", "4", "9999 * 9999"};
        int[] more = {0, 0, 0, 1, 2, 3, 3, 3};
        for (int i = 0; i < exprs.length; i++) {
            int want = more[i];
            GrownWords x = Check.told(LONG + "trunk 0 1 4;treaty 0 1 4;grows " + exprs[i] + ";");
            Check.due(want, () -> x.then(0, 1, 0));
            Check.due(2 * want, () -> x.then(1, 1, 0));
            x.days(1);
            Check.due(want, () -> x.trunk(0, 3));
            Check.due(2 * want, () -> x.trunk(1, 3));
        }
    }

    private static void aboveTheStrap() {
        // STRAPS 0, 4, 5, 6, 9, a TREATY 4; HEAT 0, 5, 9, and the one without.
        String text = "word abcdefgh 2;trunk 0 0 0;trunk 0 0 4;trunk 0 0 5;trunk 0 0 6;trunk 0 0 9;treaty 0 0 4;";
        String[] heats = {"heat 0;", "heat 1;", "heat 5;", "", "heat 6;", "heat 9;"};
        int[][] grown = {{0, 0, 0, 0, 0, 0}, {1, 0, 0, 0, 0, 0}, {1, 1, 0, 0, 0, 2}, {1, 1, 0, 0, 0, 2}, {1, 1, 1, 0, 0, 2},
            {1, 1, 1, 1, 0, 2}};
        for (int h = 0; h < heats.length; h++) {
            GrownWords x = Check.told(text + heats[h]);
            for (int t = 0; t < 6; t++) {
                int trunk = t;
                Check.due(grown[h][t], () -> x.then(trunk, 1, 0));
            }
        }
        // With a rule the STRAP holds nothing of its own.
        GrownWords y = Check.told("word abcdefgh 2;trunk 0 0 9;heat 0;grows 1;");
        Check.due(1, () -> y.then(0, 1, 0));
    }

    private static void fullAtMost() {
        // Of 8, 7 and 1 LETTERS by 3 and 6 a DAY.
        GrownWords x = Check.told("word abcdefgh 2;word abcdefg 2;word a 1;trunk 0 0 1;treaty 0 0 1;trunk 0 1 1;treaty 1 0 1;"
            + "trunk 0 2 1;treaty 2 2 1;grows 3;");
        int[][] grown = {{3, 6, 3, 6, 1, 1}, {6, 8, 6, 7, 1, 1}, {8, 8, 7, 7, 1, 1}, {8, 8, 7, 7, 1, 1}};
        for (int d = 0; d < grown.length; d++) {
            int days = d + 1;
            for (int t = 0; t < 6; t++) {
                int trunk = t;
                Check.due(grown[d][t], () -> x.then(trunk, days, 0));
            }
        }
        // By 1 and 2: a TREATY of 3 LETTERS.
        GrownWords y = Check.told("word abc 2;treaty 0 0 4;");
        Check.due(2, () -> y.then(0, 1, 0));
        Check.due(3, () -> y.then(0, 2, 0));
        Check.due(2, () -> y.full(0));
    }

    private static void atItsTurn() {
        // What a TRUNK is GROWN counts by what it is ahead of the DAY; the DAY is the one that goes by.
        GrownWords x = Check.told(LONG + "trunk 0 1 4;trunk 1 0 4;grows (grown = day) * (said - 1);");
        Check.due(1, () -> x.then(0, 1, 0));
        Check.due(2, () -> x.then(0, 2, 0));
        Check.due(8, () -> x.then(0, 9, 0));
        Check.due(3, () -> x.then(1, 1, 0));
        Check.due(3, () -> x.then(1, 2, 0));
        Check.due(3, () -> x.then(1, 3, 0));
        Check.due(6, () -> x.then(1, 4, 0));
        Check.due(6, () -> x.then(1, 6, 0));
        Check.due(8, () -> x.then(1, 7, 0));
        // FIRM and OVERLAP are those of its WORDS now.
        GrownWords y = Check.told("word abcab 1;word abb 0;trunk 0 0 1;grows overlap;");
        Check.due(2, () -> y.then(0, 1, 0));
        y.pack(0, 0, 1);
        Check.due(0, () -> y.then(0, 1, 0));
        y.turn(0);
        Check.due(2, () -> y.then(0, 1, 0));
        y.pack(0, 0, 1);
        y.pack(0, 1, 1);
        Check.due(0, () -> y.then(0, 9, 0));
    }

    /** The first TRUNK of a text, on its next DAY, must find a VALUE so. */
    private static void isWorth(int want, String value, String text, int daysAhead) {
        GrownWords x = Check.told(text + "grows (" + value + " = " + want + ") * 3;");
        toDay(x, daysAhead);
        int grown = x.trunk(0, 3);
        Check.due(grown + 3, () -> x.then(0, 1, 0));
    }

    private static void values() {
        String text = "word abcdefga 0;word abcdefgh 9;word bcdefgha 4;";
        // The least and the greatest of each.
        isWorth(0, "strap", text + "trunk 0 1 0;", 0);
        isWorth(9, "strap", text + "trunk 0 1 9;", 0);
        isWorth(0, "heat", text + "trunk 0 1 5;heat 0;", 0);
        isWorth(9, "heat", text + "trunk 0 1 5;heat 1 9;", 1);
        isWorth(5, "heat", text + "trunk 0 1 2;", 0);
        isWorth(0, "said", text + "trunk 0 1 5;", 0);
        isWorth(9, "said", text + "trunk 1 0 5;", 0);
        isWorth(0, "meant", text + "trunk 1 0 5;", 0);
        isWorth(9, "meant", text + "trunk 0 1 5;", 0);
        isWorth(0, "grown", text + "trunk 0 1 5;", 0);
        isWorth(0, "day", text + "trunk 0 1 5;", 0);
        isWorth(999, "day", text + "trunk 0 1 5;", 999);
        // Of what is SAID with what is MEANT, not the other way round.
        isWorth(1, "overlap", text + "trunk 2 1 5;", 0);
        isWorth(1, "overlap", text + "trunk 0 1 5;", 0);
        isWorth(0, "overlap", text + "trunk 1 0 5;", 0);
        isWorth(7, "overlap", text + "trunk 1 2 5;", 0);
        isWorth(7, "overlap", "word aaaaaaaa 1;trunk 0 0 5;", 0);
        isWorth(0, "overlap", "word abcdefgh 1;trunk 0 0 5;", 0);
        GrownWords grown = Check.told("word abcdefgh 1;trunk 0 0 5;grows (grown = day * 2) * 2;");
        Check.due(8, () -> grown.then(0, 4, 0));
        // Behind TURNED, DRAWN and PACKED those of now.
        GrownWords x = Check.told(text + "trunk 0 1 0;grows (said - 1) / 4 + (meant = 9) + (strap = 9) * 3;");
        Check.due(1, () -> x.then(0, 1, 0));
        x.turn(0);
        Check.due(2, () -> x.then(0, 1, 0));
        x.draw(0, 9);
        Check.due(3, () -> x.then(0, 1, 0));
        x.draw(0, 8);
        x.pack(0, 0, 2);
        Check.due(0, () -> x.then(0, 1, 0));
        x.pack(0, 1, 1);
        Check.due(1, () -> x.then(0, 1, 0));
    }

    private static void oneDayMore() {
        GrownWords x = new GrownWords();
        Check.due(0, () -> x.count(2));
        Check.due(1, () -> x.days(1));
        Check.due(1, () -> x.count(2));
        Check.due(21, () -> x.days(20));
        // The first DAY is 0.
        GrownWords y = Check.told("word abcd 1;trunk 0 0 1;grows day = 0;");
        Check.due(1, () -> y.then(0, 1, 0));
        y.days(1);
        Check.due(1, () -> y.trunk(0, 3));
        y.days(20);
        Check.due(1, () -> y.trunk(0, 3));
    }

    // ---- what is so

    private static void countsOfAll() {
        GrownWords x = Check.told("word a 1;" + Check.times(6, "treaty 0 0 4;"));
        x.days(1);
        x.see(5, 0, 0);
        int[] counts = {1, 6, 1, 5, 6, 63, 6, 1, 1, 0, 0, 0, 0};
        for (int what = 0; what <= 12; what++) {
            int w = what;
            Check.due(counts[w], () -> x.count(w));
        }
        // Each STATUS counts what it is of alone.
        Check.due(-1, () -> x.see(0, 21, 0));
        Check.due(-1, () -> x.see(0, 0, 17));
        Check.due(-1, () -> x.see(0, -1, 0));
        Check.due(-1, () -> x.days(0));
        Check.due(-1, () -> x.draw(0, 10));
        Check.due(1, () -> Check.tell(x, "#"));
        int[] status = {1, 2, 3};
        for (int i = 0; i < 3; i++) {
            int what = 10 + i;
            Check.due(status[i], () -> x.count(what));
        }
    }

    private static void countOfAnother() {
        GrownWords x = new GrownWords();
        Check.due(Check.NO_SUCH, () -> x.count(-1));
        Check.due(Check.NO_SUCH, () -> x.count(13));
        for (int far : Check.far()) {
            Check.due(Check.NO_SUCH, () -> x.count(far));
        }
        Check.leaves(Check::rich, Check.NO_SUCH, Check.NO_STATUS, y -> y.count(13));
        Check.leaves(Check::rich, Check.NO_SUCH, Check.NO_STATUS, y -> y.count(-1));
    }

    private static void noSuchWord() {
        GrownWords x = Check.told(SMOKE);
        Check.due(3, () -> x.word(3, 0));
        Check.due(Check.NO_SUCH, () -> x.word(4, 0));
        Check.due(Check.NO_SUCH, () -> x.word(-1, 0));
        Check.due(4, () -> x.word(3, 4));
        Check.due(Check.NO_SUCH, () -> x.word(3, 5));
        Check.due(Check.NO_SUCH, () -> x.word(3, -1));
        for (int far : Check.far()) {
            Check.due(Check.NO_SUCH, () -> x.word(far, 0));
            Check.due(Check.NO_SUCH, () -> x.word(0, far));
        }
        Check.leaves(Check::rich, Check.NO_SUCH, Check.NO_STATUS, y -> y.word(4, 0));
        Check.leaves(Check::rich, Check.NO_SUCH, Check.NO_STATUS, y -> y.word(0, 5));
    }

    private static void packedIn() {
        GrownWords x = Check.told("word a 1;word b 1;word c 1;" + Check.times(5, "trunk 0 0 1;") + "treaty 0 1 1;");
        Check.due(63, () -> x.word(0, 4));
        Check.due(32, () -> x.word(1, 4));
        Check.due(0, () -> x.word(2, 4));
        x.pack(0, 0, 2);
        Check.due(63, () -> x.word(0, 4));
        Check.due(1, () -> x.word(2, 4));
        x.pack(0, 1, 2);
        Check.due(62, () -> x.word(0, 4));
        Check.due(1, () -> x.word(2, 4));
    }

    private static void noSuchLetter() {
        GrownWords x = Check.told("word a 1;word abcdefgh 1;");
        Check.due(1, () -> x.letter(0, 0));
        Check.due(Check.NO_SUCH, () -> x.letter(0, 1));
        Check.due(Check.NO_SUCH, () -> x.letter(0, -1));
        Check.due(8, () -> x.letter(1, 7));
        Check.due(Check.NO_SUCH, () -> x.letter(1, 8));
        Check.due(Check.NO_SUCH, () -> x.letter(2, 0));
        Check.due(Check.NO_SUCH, () -> x.letter(-1, 0));
        for (int far : Check.far()) {
            Check.due(Check.NO_SUCH, () -> x.letter(far, 0));
            Check.due(Check.NO_SUCH, () -> x.letter(1, far));
        }
        Check.leaves(Check::rich, Check.NO_SUCH, Check.NO_STATUS, y -> y.letter(0, 5));
        Check.leaves(Check::rich, Check.NO_SUCH, Check.NO_STATUS, y -> y.letter(4, 0));
    }

    private static void noSuchTrunk() {
        GrownWords x = Check.told("word a 1;" + Check.times(6, "trunk 0 0 7;"));
        Check.due(7, () -> x.trunk(5, 2));
        Check.due(4, () -> x.trunk(5, 7));
        Check.due(Check.NO_SUCH, () -> x.trunk(6, 0));
        Check.due(Check.NO_SUCH, () -> x.trunk(-1, 0));
        Check.due(Check.NO_SUCH, () -> x.trunk(5, 8));
        Check.due(Check.NO_SUCH, () -> x.trunk(5, -1));
        for (int far : Check.far()) {
            Check.due(Check.NO_SUCH, () -> x.trunk(far, 0));
            Check.due(Check.NO_SUCH, () -> x.trunk(0, far));
        }
        Check.leaves(Check::rich, Check.NO_SUCH, Check.NO_STATUS, y -> y.trunk(3, 0));
        Check.leaves(Check::rich, Check.NO_SUCH, Check.NO_STATUS, y -> y.trunk(0, 8));
    }

    private static void whetherATreaty() {
        GrownWords x = Check.told("word a 1;trunk 0 0 1;treaty 0 0 1;trunk 0 0 1;treaty 0 0 1;");
        for (int t = 0; t < 4; t++) {
            int trunk = t;
            Check.due(t % 2, () -> x.trunk(trunk, 6));
        }
        x.days(1);
        x.turn(1);
        x.draw(1, 5);
        Check.due(1, () -> x.trunk(1, 6));
        Check.due(10, () -> x.count(5));
    }

    // ---- DAYS and STRAPS

    private static void oneToTwentyDays() {
        GrownWords x = Check.told(LONG + "trunk 0 1 0;grows day = 0 or day = 20;");
        Check.due(1, () -> x.days(1));
        Check.due(1, () -> x.trunk(0, 3));
        Check.due(21, () -> x.days(20));
        Check.due(2, () -> x.trunk(0, 3));
        Check.due(2, () -> x.count(7));
        Check.due(0, () -> x.count(11));
    }

    private static void notOneToTwenty() {
        Check.leaves(Check::rich, -1, 1, x -> x.days(0));
        Check.leaves(Check::rich, -1, 1, x -> x.days(21));
        Check.leaves(Check::rich, -1, 1, x -> x.days(-1));
        Check.leaves(Check::rich, -1, 1, x -> x.days(Integer.MAX_VALUE));
        Check.leaves(Check::rich, -1, 1, x -> x.days(Integer.MIN_VALUE));
        GrownWords x = new GrownWords();
        for (int far : Check.far()) {
            Check.due(-1, () -> x.days(far));
        }
        Check.due(Check.far().size(), () -> x.count(11));
    }

    /** To the DAY 980. */
    private static void manyDays(GrownWords x) {
        Check.tell(x, SMOKE);
        for (int k = 0; k < FIRST_DAYS; k++) {
            x.days(20);
        }
    }

    private static void lastDay() {
        GrownWords x = new GrownWords();
        manyDays(x);
        Check.due(980, () -> x.count(2));
        Check.due(-1, () -> x.days(20));
        Check.due(980, () -> x.count(2));
        Check.due(999, () -> x.days(19));
        Check.due(-1, () -> x.days(1));
        Check.due(-1, () -> x.days(20));
        Check.due(999, () -> x.count(2));
        Check.due(3, () -> x.count(11));
        Check.leaves(BoundaryTrunkTests::manyDays, -1, 1, y -> y.days(20));
        // Undone, it goes by once more; what is only thought goes on.
        Check.due(39, () -> x.undo());
        Check.due(998, () -> x.days(18));
        Check.due(999, () -> x.days(1));
        Check.due(0, () -> x.then(2, 60, 0));
        Check.due(999, () -> x.count(2));
    }

    private static void straps() {
        GrownWords x = Check.told("word a 1;trunk 0 0 4;");
        Check.due(4, () -> x.draw(0, 0));
        Check.due(0, () -> x.trunk(0, 2));
        Check.due(0, () -> x.draw(0, 9));
        Check.due(9, () -> x.trunk(0, 2));
        Check.due(9, () -> x.draw(0, 8));
        Check.due(3, () -> x.count(7));
        Check.due(0, () -> x.count(11));
        // All else of the TRUNK is as it was.
        GrownWords y = Check.told(LONG + "treaty 0 1 4;");
        y.days(1);
        Check.due(4, () -> y.draw(0, 9));
        Check.due(2, () -> y.trunk(0, 3));
        Check.due(1, () -> y.trunk(0, 6));
    }

    private static void noStrap() {
        Check.leaves(Check::rich, -1, 1, x -> x.draw(0, -1));
        Check.leaves(Check::rich, -1, 1, x -> x.draw(0, 10));
        GrownWords x = Check.told(SMOKE);
        for (int far : Check.far()) {
            Check.due(-1, () -> x.draw(0, far));
        }
        Check.due(Check.far().size(), () -> x.count(11));
        Check.due(4, () -> x.trunk(0, 2));
    }

    private static void strapIsSo() {
        Check.leaves(Check::rich, -1, 1, x -> x.draw(0, 4));
        Check.leaves(Check::rich, -1, 1, x -> x.draw(2, 1));
        GrownWords x = Check.told("word a 1;trunk 0 0 0;trunk 0 0 9;");
        Check.due(-1, () -> x.draw(0, 0));
        Check.due(-1, () -> x.draw(1, 9));
        Check.due(0, () -> x.draw(0, 9));
        Check.due(-1, () -> x.draw(0, 9));
    }

    private static void drawOfNone() {
        Check.leaves(Check::rich, Check.NO_SUCH, Check.NO_STATUS, x -> x.draw(3, 1));
        Check.leaves(Check::rich, Check.NO_SUCH, Check.NO_STATUS, x -> x.draw(-1, 10));
        GrownWords x = Check.told(SMOKE);
        for (int far : Check.far()) {
            Check.due(Check.NO_SUCH, () -> x.draw(far, far));
        }
        Check.due(0, () -> x.count(11));
    }

    // ---- PULLED, TURNED, PACKED

    /** A TRUNK of 8 LETTERS that is so much GROWN, and a TREATY twice as much. */
    private static GrownWords grown(int days) {
        GrownWords x = Check.told(LONG + "trunk 0 1 4;treaty 0 1 4;");
        for (int k = 0; k < days; k++) {
            x.days(1);
        }
        return x;
    }

    private static void pulls() {
        int[][] cases = {{7, 1, 6}, {7, 6, 1}, {7, 7, 0}, {7, 8, 0}, {7, 9, 0}, {1, 1, 0}, {1, 2, 0}, {1, 9, 0}, {2, 1, 1}};
        for (int[] one : cases) {
            GrownWords x = grown(one[0]);
            Check.due(one[2], () -> x.pull(0, one[1]));
            Check.due(one[2], () -> x.trunk(0, 3));
            Check.due(16 - one[2], () -> x.trunk(0, 5));
            Check.due(one[0] + 1, () -> x.count(7));
            Check.due(0, () -> x.count(11));
            Check.due(0, () -> x.trunk(0, 0));
            Check.due(4, () -> x.trunk(0, 2));
        }
    }

    /** The first TRUNK GROWN by 3 of 8. */
    private static void grownThree(GrownWords x) {
        Check.tell(x, LONG + "trunk 0 1 4;treaty 0 1 4;trunk 0 0 9;");
        x.days(3);
    }

    private static void grownFull(GrownWords x) {
        Check.tell(x, LONG + "trunk 0 1 4;treaty 0 1 4;trunk 0 0 9;");
        x.days(8);
    }

    private static void pullTooMuch() {
        Check.leaves(BoundaryTrunkTests::grownThree, -1, 1, x -> x.pull(0, 0));
        Check.leaves(BoundaryTrunkTests::grownThree, -1, 1, x -> x.pull(0, 10));
        Check.leaves(BoundaryTrunkTests::grownThree, -1, 1, x -> x.pull(0, -1));
        GrownWords x = grown(3);
        for (int far : Check.far()) {
            Check.due(-1, () -> x.pull(0, far));
        }
        Check.due(3, () -> x.trunk(0, 3));
        Check.due(Check.far().size(), () -> x.count(11));
    }

    private static void pullNotGrown() {
        Check.leaves(BoundaryTrunkTests::grownThree, -1, 1, x -> x.pull(2, 1));
        Check.leaves(BoundaryTrunkTests::grownThree, -1, 1, x -> x.pull(2, 9));
        GrownWords x = grown(1);
        Check.due(0, () -> x.pull(0, 1));
        Check.due(-1, () -> x.pull(0, 1));
    }

    private static void pullFull() {
        Check.leaves(BoundaryTrunkTests::grownFull, -1, 1, x -> x.pull(0, 1));
        Check.leaves(BoundaryTrunkTests::grownFull, -1, 1, x -> x.pull(0, 9));
        GrownWords x = grown(7);
        Check.due(6, () -> x.pull(0, 1));
        GrownWords y = grown(9);
        Check.due(-1, () -> y.pull(0, 1));
        // Where FULL is 1, none that is GROWN can be PULLED.
        GrownWords z = Check.told("word a 1;trunk 0 0 1;");
        Check.due(-1, () -> z.pull(0, 1));
        z.days(1);
        Check.due(-1, () -> z.pull(0, 1));
        Check.due(2, () -> z.count(11));
    }

    private static void pullATreaty() {
        Check.leaves(BoundaryTrunkTests::grownThree, -1, 1, x -> x.pull(1, 1));
        Check.leaves(BoundaryTrunkTests::grownFull, -1, 1, x -> x.pull(1, 1));
        GrownWords x = grown(0);
        Check.due(-1, () -> x.pull(1, 1));
        Check.due(1, () -> x.count(11));
    }

    private static void pullOfNone() {
        Check.leaves(BoundaryTrunkTests::grownThree, Check.NO_SUCH, Check.NO_STATUS, x -> x.pull(3, 1));
        Check.leaves(BoundaryTrunkTests::grownThree, Check.NO_SUCH, Check.NO_STATUS, x -> x.pull(-1, 0));
        GrownWords x = Check.told(SMOKE);
        for (int far : Check.far()) {
            Check.due(Check.NO_SUCH, () -> x.pull(far, far));
        }
        Check.due(0, () -> x.count(11));
    }

    private static void turns() {
        // Not GROWN, GROWN, FULL; a TREATY each.
        int[] days = {0, 3, 8};
        int[] treaties = {0, 6, 8};
        for (int k = 0; k < days.length; k++) {
            GrownWords x = Check.told(LONG + "trunk 0 1 4;treaty 0 1 4;");
            for (int d = 0; d < days[k]; d++) {
                x.days(1);
            }
            int grown = days[k];
            int twice = treaties[k];
            Check.due(grown, () -> x.turn(0));
            Check.due(twice, () -> x.turn(1));
            for (int t = 0; t < 2; t++) {
                int trunk = t;
                Check.due(1, () -> x.trunk(trunk, 0));
                Check.due(0, () -> x.trunk(trunk, 1));
                Check.due(4, () -> x.trunk(trunk, 2));
                Check.due(0, () -> x.trunk(trunk, 3));
                Check.due(t, () -> x.trunk(trunk, 6));
            }
            Check.due(grown + 2, () -> x.count(7));
        }
    }

    private static void turnOfNone() {
        Check.leaves(Check::rich, Check.NO_SUCH, Check.NO_STATUS, x -> x.turn(3));
        Check.leaves(Check::rich, Check.NO_SUCH, Check.NO_STATUS, x -> x.turn(-1));
        GrownWords x = Check.told(SMOKE);
        for (int far : Check.far()) {
            Check.due(Check.NO_SUCH, () -> x.turn(far));
        }
        Check.due(0, () -> x.count(7));
    }

    private static void packs() {
        String eight = "word a 0;word b 1;word c 2;word d 3;word e 4;word f 5;word g 6;word hijk 9;";
        GrownWords x = Check.told(eight + "trunk 0 7 0;treaty 7 0 9;");
        Check.due(0, () -> x.pack(0, 0, 7));
        Check.due(7, () -> x.trunk(0, 0));
        Check.due(7, () -> x.trunk(0, 1));
        Check.due(4, () -> x.trunk(0, 4));
        x.days(1);
        Check.due(1, () -> x.trunk(0, 3));
        Check.due(7, () -> x.pack(0, 1, 0));
        Check.due(0, () -> x.trunk(0, 3));
        Check.due(7, () -> x.trunk(0, 0));
        Check.due(0, () -> x.trunk(0, 1));
        Check.due(1, () -> x.trunk(0, 4));
        Check.due(0, () -> x.pack(1, 1, 7));
        Check.due(7, () -> x.pack(1, 0, 0));
        Check.due(1, () -> x.trunk(1, 6));
        Check.due(9, () -> x.trunk(1, 2));
        Check.due(5, () -> x.count(7));
        Check.due(0, () -> x.count(11));
    }

    private static void packsTheSame() {
        Check.leaves(Check::rich, -1, 1, x -> x.pack(0, 0, 0));
        Check.leaves(Check::rich, -1, 1, x -> x.pack(0, 1, 1));
        // GROWN stays, too.
        Check.leaves(BoundaryTrunkTests::grownThree, -1, 1, x -> x.pack(0, 0, 0));
        Check.leaves(BoundaryTrunkTests::grownThree, -1, 1, x -> x.pack(2, 1, 0));
    }

    private static void packOfNone() {
        int[][] wrong = {{3, 0, 0}, {-1, 0, 0}, {0, 2, 0}, {0, -1, 0}, {0, 0, 4}, {0, 0, -1}, {0, 1, 4}, {3, 2, 4}};
        for (int[] one : wrong) {
            Check.leaves(Check::rich, Check.NO_SUCH, Check.NO_STATUS, x -> x.pack(one[0], one[1], one[2]));
        }
        GrownWords x = Check.told(SMOKE);
        for (int far : Check.far()) {
            Check.due(Check.NO_SUCH, () -> x.pack(far, 0, 1));
            Check.due(Check.NO_SUCH, () -> x.pack(0, far, 1));
            Check.due(Check.NO_SUCH, () -> x.pack(0, 0, far));
        }
        Check.due(0, () -> x.count(11));
    }

    // ---- ACTS that are kept

    private static void fortyActs() {
        for (int many = 39; many <= 42; many++) {
            GrownWords x = Check.told("word abcdefgh 1;trunk 0 0 4;");
            for (int k = 0; k < many; k++) {
                x.days(k == 0 ? 3 : 1);
            }
            int kept = Math.min(40, many);
            Check.due(kept, () -> x.count(7));
            for (int left = kept - 1; left >= 0; left--) {
                int want = left;
                Check.due(want, () -> x.undo());
                Check.due(want, () -> x.count(7));
            }
            // The first ones of more than 40 are not undone any more.
            int day = many <= 40 ? 0 : many - 40 + 2;
            Check.due(day, () -> x.count(2));
            Check.due(Math.min(8, day), () -> x.trunk(0, 3));
            Check.due(-1, () -> x.undo());
            Check.due(0, () -> x.count(7));
        }
        // Far more, then others behind some that are undone.
        GrownWords x = Check.told("word abcdefgh 1;trunk 0 0 4;");
        for (int k = 0; k < 125; k++) {
            x.days(1);
        }
        for (int k = 0; k < 30; k++) {
            x.undo();
        }
        Check.due(95, () -> x.count(2));
        Check.due(10, () -> x.count(7));
        for (int k = 0; k < 35; k++) {
            x.days(2);
        }
        Check.due(165, () -> x.count(2));
        Check.due(40, () -> x.count(7));
        for (int k = 1; k <= 35; k++) {
            int day = 165 - 2 * k;
            x.undo();
            Check.due(day, () -> x.count(2));
        }
        for (int k = 1; k <= 5; k++) {
            int day = 95 - k;
            x.undo();
            Check.due(day, () -> x.count(2));
        }
        Check.due(-1, () -> x.undo());
    }

    private static void allAsItWas() {
        GrownWords x = Check.told("word a 1;trunk 0 0 9;treaty 0 0 9;");
        Check.due(0, () -> x.turn(0));
        Check.due(1, () -> x.count(7));
        Check.due(0, () -> x.turn(1));
        Check.due(2, () -> x.count(7));
        Check.due(1, () -> x.undo());
        Check.due(0, () -> x.undo());
        Check.due(-1, () -> x.undo());
        // DAYS without TRUNKS are ACTS, too.
        GrownWords y = new GrownWords();
        Check.due(1, () -> y.days(1));
        Check.due(1, () -> y.count(7));
        Check.due(0, () -> y.undo());
        Check.due(0, () -> y.count(2));
        // What is SEEN, the IMAGE, what is forgotten are none; nor is what is refused.
        GrownWords z = Check.told(SMOKE);
        z.see(0, 0, 8);
        z.image();
        z.forget();
        z.restore();
        z.days(0);
        z.draw(0, 4);
        z.pull(0, 1);
        z.pack(0, 0, 0);
        Check.due(0, () -> z.count(7));
    }

    private static void lastOneFirst() {
        GrownWords x = Check.told(LONG + "trunk 0 1 4;treaty 1 0 4;");
        x.days(3);
        x.pull(0, 2);
        x.draw(0, 9);
        x.turn(0);
        x.pack(1, 0, 0);
        x.days(2);
        int[][] now = {{1, 0, 9, 0, 0, 0, 4, 4, 5}, {1, 0, 9, 0, 0, 0, 4, 0, 3}, {1, 0, 9, 0, 1, 0, 4, 6, 3},
            {0, 1, 9, 1, 1, 0, 4, 6, 3}, {0, 1, 4, 1, 1, 0, 4, 6, 3}, {0, 1, 4, 3, 1, 0, 4, 6, 3}, {0, 1, 4, 0, 1, 0, 4, 0, 0}};
        for (int k = 0; k < now.length; k++) {
            for (int i = 0; i < 8; i++) {
                int trunk = i / 4;
                int what = i % 4;
                Check.due(now[k][i], () -> x.trunk(trunk, what));
            }
            Check.due(now[k][8], () -> x.count(2));
            int left = now.length - 2 - k;
            Check.due(left, () -> x.undo());
        }
    }

    private static void sixTrunksUndone() {
        GrownWords x = Check.told("word abcdefgh 1;word bcdefghi 2;trunk 0 0 0;trunk 0 0 1;trunk 0 0 2;trunk 0 0 3;trunk 0 0 4;"
            + "trunk 0 1 5;grows strap / 2;");
        x.days(2);
        for (int t = 5; t >= 0; t--) {
            x.turn(t);
            x.draw(t, 9);
            x.pack(t, 0, t == 5 ? 0 : 1);
            x.days(1);
        }
        Check.due(25, () -> x.count(7));
        for (int t = 0; t <= 5; t++) {
            for (int k = 0; k < 4; k++) {
                x.undo();
            }
            // Those behind it are as they were, when it was its turn.
            int trunk = t;
            Check.due(t, () -> x.trunk(trunk, 2));
            Check.due(t == 5 ? 1 : 0, () -> x.trunk(trunk, 1));
            Check.due(0, () -> x.trunk(trunk, 0));
            int days = 2 + 5 - t;
            Check.due(days, () -> x.count(2));
            Check.due(Math.min(8, t / 2 * days), () -> x.trunk(trunk, 3));
        }
        for (int t = 0; t <= 5; t++) {
            int trunk = t;
            Check.due(t / 2 * 2, () -> x.trunk(trunk, 3));
        }
        Check.due(0, () -> x.undo());
        Check.due(96, () -> x.count(6));
    }

    private static void undoesActsAlone() {
        GrownWords x = Check.told(SMOKE);
        x.days(1);
        x.turn(0);
        x.image();
        x.see(0, 1, 7);
        x.days(0);
        x.see(0, 0, 17);
        Check.due(1, () -> Check.tell(x, "#"));
        Check.feedAll(x, "word a 1;");
        Check.due(1, () -> x.undo());
        Check.due(0, () -> x.undo());
        // What is SEEN, the tape, the FAULT, STATUS, the IMAGE stay.
        Check.due(1, () -> x.count(8));
        Check.due(20, () -> x.count(9));
        Check.due(0, () -> x.fault());
        Check.due(1, () -> x.count(10));
        Check.due(1, () -> x.count(11));
        Check.due(1, () -> x.count(12));
        Check.due(1, () -> x.restore() ? 1 : 0);
        Check.due(2, () -> x.count(7));
        Check.due(1, () -> x.trunk(0, 0));
        // What was undone is no ACT any more, and isn't undone again.
        Check.due(1, () -> x.undo());
        x.draw(0, 0);
        Check.due(2, () -> x.count(7));
        Check.due(1, () -> x.undo());
        Check.due(4, () -> x.trunk(0, 2));
        Check.due(1, () -> x.trunk(0, 3));
        Check.due(0, () -> x.undo());
        Check.due(0, () -> x.trunk(0, 3));
    }

    private static void noAct() {
        GrownWords x = Check.told(SMOKE);
        Check.due(-1, () -> x.undo());
        Check.due(0, () -> x.count(11));
        Check.leaves(y -> Check.tell(y, SMOKE), -1, Check.NO_STATUS, GrownWords::undo);
        x.days(1);
        Check.due(0, () -> x.undo());
        Check.due(-1, () -> x.undo());
        Check.due(0, () -> x.count(2));
    }
}
