/** A test for each sentence on what is SEEN, SEASONS, GAMES, YEARS, IMAGES that names a boundary case (26 to 34). */
public final class BoundarySeenTests {
    private static final String SMOKE = "word smoke 3;word fog 5;word keg 1;word gof 2;"
        + "trunk 0 1 4;treaty 2 1 2;trunk 1 3 9;heat 6 3;";
    private static final String ONE_WORD = "word abcdefgh 1;trunk 0 0 ";

    public static void main(String[] args) {
        seen();
        loose();
        look();
        seasonsAndGames();
        years();
        images();
        Check.end();
    }

    private static void seen() {
        Check.sentence("SEEN (at most 8)", BoundarySeenTests::eightSeen);
        Check.sentence("see: NONE (STATUS 2): there are 8", BoundarySeenTests::ninthSeen);
        Check.sentence("behind so many DAYS (0 to 20)", BoundarySeenTests::seenDays);
        Check.sentence("how many LETTERS (0 to 16)", BoundarySeenTests::seenLetters);
        Check.sentence("NoSuchElementException (ahead): no such TRUNK.", BoundarySeenTests::seenOfNone);
        Check.sentence("All that is SEEN is forgotten.", BoundarySeenTests::forgets);
    }

    private static void loose() {
        Check.sentence("LOOSE: TRUNKS and STRAPS (0 to 9, another one than it has)", BoundarySeenTests::anotherStrap);
        Check.sentence("by one of which from now on all SEEN would be so", BoundarySeenTests::allSeen);
        Check.sentence("the first (10 by the TRUNK, and STRAP)", BoundarySeenTests::firstLoose);
        Check.sentence("LOOSE: .. the first (1; NONE: none)", BoundarySeenTests::noneLoose);
        Check.sentence("whether it is so without (1)", BoundarySeenTests::soWithout);
        Check.sentence("loose: NoSuchElementException: another what.", BoundarySeenTests::looseOfAnother);
    }

    private static void look() {
        Check.sentence("LOOK NEXT: the TRUNK that behind 6 DAYS would be GROWN most unlike", BoundarySeenTests::sixDays);
        Check.sentence("by these (of like ones the least): how many unlike numbers", BoundarySeenTests::mostUnlike);
        Check.sentence("LOOK NEXT: none without any.", BoundarySeenTests::lookNone);
        Check.sentence("look: NoSuchElementException: another what.", BoundarySeenTests::lookOfAnother);
    }

    private static void seasonsAndGames() {
        Check.sentence("SEASONS: each of so many DAYS (1 to 5)", BoundarySeenTests::fiveDays);
        Check.sentence("is hot with so many tenths (0 to 10)", BoundarySeenTests::tenths);
        Check.sentence("HEAT is 9 then, else 0, whatever was told", BoundarySeenTests::hotAndCold);
        Check.sentence("seasons: IllegalArgumentException (behind NoSuchElementException): days, tenths.",
            BoundarySeenTests::seasonsTooFar);
        Check.sentence("each draws the STRAP to 9 now, or not (1, 0)", BoundarySeenTests::drawnAlready);
        Check.sentence("how many LETTERS one's BLEND has behind 4 DAYS", BoundarySeenTests::fourDays);
        Check.sentence("A couple RESTS, if neither gains more by the other choice", BoundarySeenTests::rests);
        Check.sentence("game: NoSuchElementException: also another what.", BoundarySeenTests::gameOfNone);
        Check.sentence("game: IllegalArgumentException (behind that): both are one.", BoundarySeenTests::gameOfOne);
    }

    private static void years() {
        Check.sentence("YEARS by a seed: n DAYS (0 to 60) from now on", BoundarySeenTests::sixtyDays);
        Check.sentence("A seed becomes itself times 1103515245 and 12345 (an int that wraps)", BoundarySeenTests::seedsWrap);
        Check.sentence("a DRAW of n is its bits 16 to 30 MOD n then", BoundarySeenTests::bitsOfADraw);
        Check.sentence("(GROWN is 0, be it that WORD already or not)", BoundarySeenTests::packedAlready);
        Check.sentence("how often a TRUNK that wasn't FULL ahead of a DAY (behind what was drawn) was so behind it",
            BoundarySeenTests::howOften);
        Check.sentence("(Without TRUNKS nothing is drawn behind 0 to 2.)", BoundarySeenTests::yearsWithoutTrunks);
        Check.sentence("years: NoSuchElementException: another what. IllegalArgumentException (behind that): n.",
            BoundarySeenTests::yearsTooFar);
    }

    private static void images() {
        Check.sentence("(not counted where an exception tells it)", BoundarySeenTests::notCounted);
        Check.sentence("AN IMAGE keeps all that DAYS and ACTS change, ACTS that are kept, what is SEEN, STATUS.",
            BoundarySeenTests::imageKeeps);
        Check.sentence("AN IMAGE is kept, in place of another one.", BoundarySeenTests::anotherImage);
        Check.sentence("It is as the IMAGE again: true.", BoundarySeenTests::again);
        Check.sentence("False: there is none.", BoundarySeenTests::noImage);
    }

    private static void leavesRich(int want, int status, Check.Asked call) {
        Check.leaves(Check::rich, want, status, call);
    }

    // ---- SEEN

    private static void eightSeen() {
        GrownWords x = Check.told(SMOKE);
        for (int many = 1; many <= 8; many++) {
            int want = many;
            Check.due(want, () -> x.see(0, 0, 8));
            Check.due(want, () -> x.count(8));
        }
        Check.due(0, () -> x.count(12));
        Check.due(1, () -> x.loose(2));
        // The eighth counts as the first does.
        GrownWords y = Check.told(SMOKE);
        for (int k = 0; k < 7; k++) {
            y.see(0, 0, 8);
        }
        y.see(2, 0, 7);
        Check.due(0, () -> y.loose(2));
        Check.due(0, () -> y.loose(0));
    }

    private static void seesEight(GrownWords x) {
        Check.rich(x);
        x.forget();
        for (int k = 0; k < 8; k++) {
            x.see(k % 3, k, 7);
        }
    }

    private static void ninthSeen() {
        Check.leaves(BoundarySeenTests::seesEight, -1, 2, x -> x.see(0, 0, 8));
        Check.leaves(BoundarySeenTests::seesEight, -1, 2, x -> x.see(0, 21, 17));
        Check.leaves(BoundarySeenTests::seesEight, Check.NO_SUCH, Check.NO_STATUS, x -> x.see(3, 0, 8));
        GrownWords x = Check.told(SMOKE);
        for (int k = 0; k < 8; k++) {
            x.see(0, 0, 8);
        }
        Check.due(-1, () -> x.see(0, 0, 7));
        Check.due(8, () -> x.count(8));
        Check.due(1, () -> x.loose(2));
        x.forget();
        Check.due(1, () -> x.see(0, 0, 8));
        Check.due(1, () -> x.count(12));
    }

    private static void seenDays() {
        // FULL with the 20th DAY: what is seen behind it, and ahead of it.
        GrownWords x = Check.told("word ab 1;trunk 0 0 1;grows day = 19;");
        Check.due(1, () -> x.see(0, 0, 4));
        Check.due(2, () -> x.see(0, 19, 4));
        Check.due(3, () -> x.see(0, 20, 3));
        Check.due(1, () -> x.loose(2));
        Check.due(4, () -> x.see(0, 20, 4));
        Check.due(0, () -> x.loose(2));
        leavesRich(-1, 2, y -> y.see(0, -1, 7));
        leavesRich(-1, 2, y -> y.see(0, 21, 7));
        GrownWords z = Check.told(SMOKE);
        for (int far : Check.far()) {
            Check.due(-1, () -> z.see(0, far, 7));
        }
        Check.due(Check.far().size(), () -> z.count(12));
        Check.due(0, () -> z.count(8));
    }

    private static void seenLetters() {
        GrownWords x = Check.told("word abcdefgh 1;word a 1;trunk 0 0 4;trunk 1 1 4;");
        Check.due(1, () -> x.see(0, 0, 16));
        Check.due(2, () -> x.see(1, 1, 1));
        Check.due(1, () -> x.loose(2));
        // No BLEND has 0 LETTERS, but 0 can be told.
        Check.due(3, () -> x.see(1, 1, 0));
        Check.due(0, () -> x.loose(2));
        Check.due(0, () -> x.loose(0));
        leavesRich(-1, 2, y -> y.see(0, 0, -1));
        leavesRich(-1, 2, y -> y.see(0, 0, 17));
        GrownWords z = Check.told(SMOKE);
        for (int far : Check.far()) {
            Check.due(-1, () -> z.see(0, 0, far));
        }
        Check.due(Check.far().size(), () -> z.count(12));
    }

    private static void seenOfNone() {
        leavesRich(Check.NO_SUCH, Check.NO_STATUS, x -> x.see(3, 0, 0));
        leavesRich(Check.NO_SUCH, Check.NO_STATUS, x -> x.see(-1, 0, 0));
        leavesRich(Check.NO_SUCH, Check.NO_STATUS, x -> x.see(3, 21, 17));
        GrownWords x = Check.told("word a 1;" + Check.times(6, "trunk 0 0 1;"));
        Check.due(1, () -> x.see(5, 0, 0));
        Check.due(Check.NO_SUCH, () -> x.see(6, 0, 0));
        for (int far : Check.far()) {
            Check.due(Check.NO_SUCH, () -> x.see(far, far, far));
        }
        Check.due(0, () -> x.count(12));
        Check.due(1, () -> x.count(8));
    }

    private static void forgets() {
        GrownWords x = Check.told(SMOKE);
        x.forget();
        Check.due(0, () -> x.count(8));
        for (int k = 0; k < 8; k++) {
            x.see(2, 0, 0);
        }
        Check.due(0, () -> x.loose(0));
        x.forget();
        Check.due(0, () -> x.count(8));
        Check.due(27, () -> x.loose(0));
        Check.due(1, () -> x.loose(2));
        Check.due(1, () -> x.see(0, 1, 7));
        // All else stays.
        Check.leaves(BoundarySeenTests::withoutSeen, 0, Check.NO_STATUS, y -> forget(y));
        GrownWords z = new GrownWords();
        withoutSeen(z);
        Check.due(7, () -> z.count(7));
        Check.due(1, () -> z.count(12));
        z.restore();
        Check.due(1, () -> z.count(8));
    }

    private static int forget(GrownWords x) {
        x.forget();
        return 0;
    }

    private static void withoutSeen(GrownWords x) {
        Check.rich(x);
        x.forget();
    }

    // ---- LOOSE

    private static void anotherStrap() {
        for (int strap = 0; strap <= 9; strap++) {
            GrownWords x = Check.told(ONE_WORD + strap + ";");
            int first = strap == 0 ? 1 : 0;
            Check.due(9, () -> x.loose(0));
            Check.due(first, () -> x.loose(1));
        }
        // By each STRAP alone: also by 0, by 9.
        for (int strap = 0; strap <= 9; strap++) {
            int want = strap;
            GrownWords x = Check.told(ONE_WORD + (strap + 1) % 10 + ";grows strap = " + strap + ";");
            x.see(0, 1, 15);
            Check.due(1, () -> x.loose(0));
            Check.due(want, () -> x.loose(1));
            Check.due(0, () -> x.loose(2));
            x.draw(0, strap);
            Check.due(0, () -> x.loose(0));
            Check.due(-1, () -> x.loose(1));
            Check.due(1, () -> x.loose(2));
        }
        GrownWords all = Check.told("word a 1;" + Check.times(6, "trunk 0 0 0;"));
        Check.due(54, () -> all.loose(0));
    }

    private static void allSeen() {
        // One number that isn't so is enough, be it the first or the last; each TRUNK's STRAP alone is loose.
        GrownWords x = Check.told(ONE_WORD + "0;trunk 0 0 0;heat 3;");
        x.see(0, 0, 16);
        x.see(0, 20, 8);
        x.see(1, 3, 13);
        Check.due(4, () -> x.loose(0));
        Check.due(1, () -> x.loose(2));
        x.see(0, 1, 16);
        Check.due(0, () -> x.loose(0));
        GrownWords y = Check.told(ONE_WORD + "0;trunk 0 0 0;heat 3;");
        y.see(0, 1, 16);
        // Only TRUNK 0 by 3 to 9.
        Check.due(7, () -> y.loose(0));
        Check.due(3, () -> y.loose(1));
        y.see(1, 1, 16);
        // Both would have to be others.
        Check.due(0, () -> y.loose(0));
        // From now on: the same numbers count from the DAY that it is.
        GrownWords z = Check.told(ONE_WORD + "0;heat 3;");
        z.see(0, 2, 14);
        Check.due(1, () -> z.loose(2));
        z.days(1);
        Check.due(0, () -> z.loose(2));
        z.undo();
        Check.due(1, () -> z.loose(2));
    }

    private static void firstLoose() {
        GrownWords x = Check.told("word abcd 1;" + Check.times(5, "trunk 0 0 0;") + "trunk 0 0 8;grows strap = 9;");
        x.see(5, 1, 7);
        Check.due(59, () -> x.loose(1));
        Check.due(1, () -> x.loose(0));
        x.draw(0, 5);
        x.forget();
        Check.due(0, () -> x.loose(1));
        x.draw(0, 0);
        Check.due(1, () -> x.loose(1));
        GrownWords y = Check.told("word abcd 1;trunk 0 0 0;trunk 0 0 1;grows strap = 0 and said = 1;");
        y.see(1, 1, 7);
        Check.due(10, () -> y.loose(1));
    }

    private static void noneLoose() {
        GrownWords none = new GrownWords();
        Check.due(0, () -> none.loose(0));
        Check.due(-1, () -> none.loose(1));
        GrownWords words = Check.told("word a 1;");
        Check.due(0, () -> words.loose(0));
        Check.due(-1, () -> words.loose(1));
        GrownWords x = Check.told(ONE_WORD + "4;");
        x.see(0, 1, 0);
        Check.due(0, () -> x.loose(0));
        Check.due(-1, () -> x.loose(1));
        Check.due(0, () -> x.loose(2));
    }

    private static void soWithout() {
        GrownWords none = new GrownWords();
        Check.due(1, () -> none.loose(2));
        GrownWords x = Check.told(ONE_WORD + "4;");
        Check.due(1, () -> x.loose(2));
        x.see(0, 1, 15);
        Check.due(1, () -> x.loose(2));
        x.see(0, 0, 15);
        Check.due(0, () -> x.loose(2));
    }

    private static void looseOfAnother() {
        leavesRich(Check.NO_SUCH, Check.NO_STATUS, x -> x.loose(-1));
        leavesRich(Check.NO_SUCH, Check.NO_STATUS, x -> x.loose(3));
        GrownWords x = new GrownWords();
        for (int far : Check.far()) {
            Check.due(Check.NO_SUCH, () -> x.loose(far));
        }
    }

    // ---- LOOK NEXT

    private static void sixDays() {
        // By the sixth DAY, the DAY 5, the first TRUNK grows; by the seventh the other one.
        GrownWords x = Check.told("word ab 1;word cd 2;trunk 0 0 9;trunk 1 1 9;grows day = said + 4 and strap = 0;");
        Check.due(0, () -> x.look(0));
        Check.due(2, () -> x.look(1));
        GrownWords y = Check.told("word ab 1;word cd 2;trunk 1 1 9;trunk 0 0 9;grows day = said + 4 and strap = 0;");
        Check.due(1, () -> y.look(0));
        Check.due(2, () -> y.look(1));
        y.days(1);
        Check.due(0, () -> y.look(0));
        Check.due(2, () -> y.look(1));
    }

    private static void mostUnlike() {
        // All alike: the least one, 1 number.
        GrownWords like = Check.told("word ab 1;" + Check.times(3, "trunk 0 0 4;") + "grows 0;");
        Check.due(0, () -> like.look(0));
        Check.due(1, () -> like.look(1));
        // The STRAPS 0 and 9 count, and the one that it has, if another one's is loose.
        for (int strap = 0; strap <= 9; strap += 9) {
            GrownWords x = Check.told(ONE_WORD + "5;grows strap = " + strap + ";");
            Check.due(2, () -> x.look(1));
            GrownWords own = Check.told(ONE_WORD + strap + ";grows strap = " + strap + ";");
            Check.due(1, () -> own.look(1));
            GrownWords two = Check.told(ONE_WORD + strap + ";trunk 0 0 4;grows strap = " + strap + ";");
            Check.due(0, () -> two.look(0));
            Check.due(2, () -> two.look(1));
        }
        // As many numbers as there can be: 0 to 8 by 9 STRAPS, and by its own 0.
        GrownWords many = Check.told("word abcdefgh 1;trunk 0 0 9;grows (day < 3) * (strap < 9) * "
            + "(strap / 3 + (day < (strap - strap / 3 * 3)));");
        Check.due(9, () -> many.look(1));
        // Only what is LOOSE counts.
        many.see(0, 1, 15);
        Check.due(3, () -> many.look(1));
        GrownWords last = Check.told("word ab 1;word cd 2;" + Check.times(5, "trunk 0 0 4;") + "trunk 1 1 4;"
            + "grows said = 2 and strap < 3;");
        Check.due(5, () -> last.look(0));
    }

    private static void lookNone() {
        GrownWords none = new GrownWords();
        Check.due(-1, () -> none.look(0));
        Check.due(0, () -> none.look(1));
        GrownWords x = Check.told(SMOKE);
        x.see(0, 0, 0);
        Check.due(-1, () -> x.look(0));
        Check.due(0, () -> x.look(1));
        x.forget();
        Check.due(0, () -> x.look(0));
        Check.due(2, () -> x.look(1));
        // All is so by the STRAPS as they are, but by no other one.
        GrownWords y = Check.told(ONE_WORD + "4;grows strap = 4;");
        y.see(0, 1, 15);
        Check.due(1, () -> y.loose(2));
        Check.due(-1, () -> y.look(0));
        Check.due(0, () -> y.look(1));
    }

    private static void lookOfAnother() {
        leavesRich(Check.NO_SUCH, Check.NO_STATUS, x -> x.look(-1));
        leavesRich(Check.NO_SUCH, Check.NO_STATUS, x -> x.look(2));
        GrownWords x = new GrownWords();
        for (int far : Check.far()) {
            Check.due(Check.NO_SUCH, () -> x.look(far));
        }
    }

    // ---- SEASONS

    private static void fiveDays() {
        GrownWords x = Check.told("word a 1;word abcde 1;word abcdef 1;trunk 0 0 4;trunk 1 1 4;trunk 2 2 4;");
        // FULL by 1, 5 and 6 hot DAYS.
        Check.due(3, () -> x.seasons(0, 1, 3));
        Check.due(0, () -> x.seasons(1, 1, 10));
        Check.due(0, () -> x.seasons(1, 4, 10));
        Check.due(100000, () -> x.seasons(1, 5, 10));
        Check.due(0, () -> x.seasons(2, 5, 10));
        Check.due(32, () -> x.seasons(1, 5, 2));
        Check.due(100000 - 7 * 7 * 7 * 7 * 7, () -> x.seasons(0, 5, 3));
        Check.due(59049, () -> x.seasons(1, 5, 9));
        // One that is FULL is so whatever comes.
        x.days(5);
        for (int days = 1; days <= 5; days++) {
            int many = days;
            int all = Integer.parseInt("1" + "0".repeat(days));
            Check.due(all, () -> x.seasons(1, many, 0));
            Check.due(all, () -> x.seasons(1, many, 5));
            Check.due(all, () -> x.seasons(1, many, 10));
        }
    }

    private static void tenths() {
        GrownWords x = Check.told("word ab 1;trunk 0 0 4;");
        for (int tenths = 0; tenths <= 10; tenths++) {
            int t = tenths;
            Check.due(0, () -> x.seasons(0, 1, t));
            Check.due(t * t, () -> x.seasons(0, 2, t));
            Check.due(t * t * t + 3 * t * t * (10 - t), () -> x.seasons(0, 3, t));
        }
    }

    private static void hotAndCold() {
        // HEAT is 9 or 0 for what grows, too; a STRAP of 9 holds on hot DAYS, one of 8 doesn't.
        GrownWords x = Check.told("word a 1;trunk 0 0 8;trunk 0 0 9;trunk 0 0 0;heat 5;");
        Check.due(10, () -> x.seasons(0, 1, 10));
        Check.due(0, () -> x.seasons(1, 5, 10));
        Check.due(0, () -> x.seasons(2, 5, 0));
        GrownWords y = Check.told("word a 1;trunk 0 0 5;heat 5;grows heat = 9;");
        Check.due(3, () -> y.seasons(0, 1, 3));
        GrownWords z = Check.told("word a 1;trunk 0 0 5;heat 5;grows heat = 0;");
        Check.due(7, () -> z.seasons(0, 1, 3));
        GrownWords other = Check.told("word a 1;trunk 0 0 5;heat 5;grows 0 < heat and heat < 9;");
        Check.due(0, () -> other.seasons(0, 5, 3));
        // From now on: the DAY goes on.
        GrownWords day = Check.told("word a 1;trunk 0 0 5;grows day = 4 and heat = 9;");
        Check.due(0, () -> day.seasons(0, 4, 10));
        Check.due(30000, () -> day.seasons(0, 5, 3));
        day.days(4);
        Check.due(3, () -> day.seasons(0, 1, 3));
        day.days(1);
        Check.due(0, () -> day.seasons(0, 5, 3));
    }

    private static void seasonsTooFar() {
        int[][] wrong = {{0, 1}, {6, 1}, {-1, 1}, {1, -1}, {1, 11}, {0, 11}};
        for (int[] one : wrong) {
            leavesRich(Check.WRONG, Check.NO_STATUS, x -> x.seasons(0, one[0], one[1]));
            leavesRich(Check.NO_SUCH, Check.NO_STATUS, x -> x.seasons(3, one[0], one[1]));
        }
        leavesRich(Check.NO_SUCH, Check.NO_STATUS, x -> x.seasons(-1, 1, 1));
        GrownWords x = Check.told(SMOKE);
        for (int far : Check.far()) {
            Check.due(Check.WRONG, () -> x.seasons(0, far, 1));
            Check.due(Check.WRONG, () -> x.seasons(0, 1, far));
            Check.due(Check.NO_SUCH, () -> x.seasons(far, 1, 1));
        }
    }

    // ---- A GAME

    private static void drawnAlready() {
        // It costs 1, and holds nothing more.
        GrownWords x = Check.told(ONE_WORD + "9;trunk 0 0 9;");
        Check.due(1, () -> x.game(0, 1, 0));
        Check.due(0, () -> x.game(0, 1, 1));
        // Of 4 LETTERS that it would lose 3 are gained.
        GrownWords y = Check.told(ONE_WORD + "4;trunk 0 0 9;");
        Check.due(1, () -> y.game(0, 1, 0));
        Check.due(10, () -> y.game(0, 1, 1));
        Check.due(1, () -> y.game(1, 0, 1));
        GrownWords z = Check.told(ONE_WORD + "4;trunk 0 0 8;heat 9;");
        Check.due(1, () -> z.game(0, 1, 0));
        Check.due(11, () -> z.game(0, 1, 1));
        Check.due(4, () -> z.trunk(0, 2));
    }

    private static void fourDays() {
        // 2 LETTERS on the fourth DAY, the DAY 3, are worth it; on the fifth not.
        GrownWords x = Check.told("word abcdefgh 3;word ijklmnop 4;trunk 0 0 1;trunk 1 1 1;grows (day = said) * (strap = 1) * 2;");
        Check.due(1, () -> x.game(0, 1, 0));
        Check.due(10, () -> x.game(0, 1, 1));
        x.days(1);
        Check.due(11, () -> x.game(0, 1, 1));
        x.days(3);
        Check.due(1, () -> x.game(0, 1, 1));
        x.days(1);
        Check.due(0, () -> x.game(0, 1, 1));
    }

    private static void rests() {
        // 1 LETTER is as much as it costs: both choices are like; 2 are more, none are less.
        String text = "word abcdefgh 0;word ijklmnop 1;word qrstuvwx 2;trunk 0 0 1;trunk 1 1 1;trunk 2 2 1;trunk 1 1 1;"
            + "grows (day = 0) * (strap = 1) * said;";
        int[][] cases = {{0, 1, 2, 0}, {1, 0, 2, 0}, {1, 3, 4, 0}, {1, 2, 2, 1}, {2, 1, 2, 10}, {0, 2, 1, 1}, {2, 0, 1, 10}};
        for (int[] one : cases) {
            GrownWords x = Check.told(text);
            Check.due(one[2], () -> x.game(one[0], one[1], 0));
            Check.due(one[3], () -> x.game(one[0], one[1], 1));
        }
        // By drawing it one may lose more than 1, where a greater STRAP lets it grow.
        GrownWords y = Check.told(ONE_WORD + "1;trunk 0 0 1;grows strap = 9;");
        Check.due(1, () -> y.game(0, 1, 0));
        Check.due(0, () -> y.game(0, 1, 1));
    }

    private static void gameOfNone() {
        int[][] wrong = {{3, 0, 0}, {0, 3, 0}, {-1, 0, 0}, {0, -1, 0}, {0, 1, 2}, {0, 1, -1}, {3, 3, 0}, {0, 0, 2}};
        for (int[] one : wrong) {
            leavesRich(Check.NO_SUCH, Check.NO_STATUS, x -> x.game(one[0], one[1], one[2]));
        }
        GrownWords x = Check.told(SMOKE);
        for (int far : Check.far()) {
            Check.due(Check.NO_SUCH, () -> x.game(far, far, 0));
            Check.due(Check.NO_SUCH, () -> x.game(0, far, 0));
            Check.due(Check.NO_SUCH, () -> x.game(0, 0, far));
        }
    }

    private static void gameOfOne() {
        for (int trunk = 0; trunk <= 2; trunk++) {
            int t = trunk;
            leavesRich(Check.WRONG, Check.NO_STATUS, x -> x.game(t, t, 0));
            leavesRich(Check.WRONG, Check.NO_STATUS, x -> x.game(t, t, 1));
        }
    }

    // ---- YEARS

    private static final int[] SEEDS = {
        0, 1, -1, 2, 5, 12345, -12345, 65536, 1 << 30, -(1 << 30), Integer.MAX_VALUE, Integer.MIN_VALUE,
        Integer.MAX_VALUE - 1, Integer.MIN_VALUE + 1, 1103515245, -1103515245
    };

    /** What a seed becomes, by longs: as an int that wraps would, but never below 0. */
    private static long next(long seed) {
        return Math.floorMod(seed * 1103515245L + 12345L, 4294967296L);
    }

    private static int draw(long seed, int n) {
        return (int) (seed % 2147483648L / 65536 % n);
    }

    /**
     * The years of a text with one TRUNK, of one WORD of 8 LETTERS, that grows by 1 a DAY whatever its STRAP: TURNED or
     * PACKED it is GROWN 0. Answers how often it became FULL, and puts 100 more for each LETTER at the end.
     */
    private static int yearsOfOne(int seed, int n, int grownNow) {
        long s = Math.floorMod((long) seed, 4294967296L);
        int grown = grownNow;
        int often = 0;
        for (int day = 0; day < n; day++) {
            s = next(s);
            int kind = draw(s, 6);
            int more = kind == 0 ? 1 : kind == 1 ? 2 : kind == 2 ? 3 : 0;
            for (int k = 0; k < more; k++) {
                s = next(s);
            }
            grown = kind == 0 || kind == 2 ? 0 : grown;
            often += grown == 7 ? 1 : 0;
            grown = Math.min(8, grown + 1);
        }
        return often + 100 * (16 - grown);
    }

    private static void sixtyDays() {
        GrownWords x = Check.told(ONE_WORD + "3;grows 1;");
        for (int n : new int[] {0, 1, 2, 59, 60}) {
            for (int seed : SEEDS) {
                int want = yearsOfOne(seed, n, 0);
                Check.due(want % 100, () -> x.years(seed, n, 0));
                Check.due(want / 100 == 8 ? 1 : 0, () -> x.years(seed, n, 1));
                Check.due(want / 100, () -> x.years(seed, n, 2));
            }
        }
        // With 0 DAYS all is as it is now, whatever the seed.
        GrownWords y = Check.told(SMOKE);
        y.days(2);
        for (int seed : SEEDS) {
            Check.due(0, () -> y.years(seed, 0, 0));
            Check.due(1, () -> y.years(seed, 0, 1));
            Check.due(y.count(6), () -> y.years(seed, 0, 2));
        }
        // From now on: the 60th DAY is the DAY 59 more.
        GrownWords z = Check.told("word ab 1;treaty 0 0 0;grows day = 61;");
        z.days(2);
        for (int seed : SEEDS) {
            Check.due(0, () -> z.years(seed, 59, 0));
            Check.due(1, () -> z.years(seed, 60, 0));
            Check.due(1, () -> z.years(seed, 60, 1));
            Check.due(2, () -> z.years(seed, 60, 2));
        }
    }

    private static void seedsWrap() {
        for (int grownNow : new int[] {0, 5, 8}) {
            GrownWords x = Check.told(ONE_WORD + "3;grows 1;");
            for (int k = 0; k < grownNow; k++) {
                x.days(1);
            }
            for (int k = 0; k < 60; k++) {
                int seed = (int) (2654435761L * k + 977);
                int want = yearsOfOne(seed, 40, grownNow);
                Check.due(want % 100, () -> x.years(seed, 40, 0));
                Check.due(want / 100, () -> x.years(seed, 40, 2));
            }
        }
    }

    private static void bitsOfADraw() {
        // Of one DAY alone: 0 and 2 make it GROWN 0 ahead of it, others don't.
        GrownWords x = Check.told(ONE_WORD + "3;grows 1;");
        x.days(3);
        int kept = 0;
        for (int seed = 0; seed < 100; seed++) {
            int one = seed * 30011;
            int kind = draw(next(Math.floorMod((long) one, 4294967296L)), 6);
            boolean anew = kind == 0 || kind == 2;
            kept += anew ? 0 : 1;
            Check.due(anew ? 15 : 12, () -> x.years(one, 1, 2));
        }
        int many = kept;
        Check.due(1, () -> many > 40 && many < 90 ? 1 : 0);
        // A DRAW of TRUNKS, of 10: which STRAP lets it grow.
        GrownWords y = Check.told("word abcdefgh 1;word a 2;trunk 0 0 0;trunk 0 0 0;trunk 0 0 0;grows strap = 9;");
        for (int seed = 0; seed < 100; seed++) {
            int one = seed * 12289;
            long first = next(one);
            boolean grows = draw(first, 6) == 1 && draw(next(next(first)), 10) == 9;
            // Which WORD comes in which half: 8 LETTERS, or 1.
            boolean packs = draw(first, 6) == 2 && draw(next(next(first)), 2) == 1;
            Check.due(48 - (grows ? 1 : 0) - (packs ? 7 : 0), () -> y.years(one, 1, 2));
        }
        // The WORD is drawn ahead of the half: SAID is FIRM 1 as it was, or 3.
        GrownWords z = Check.told("word abcdefgh 1;word bcdefghi 3;trunk 0 0 0;grows said - 1;");
        for (int seed = 0; seed < 100; seed++) {
            int one = seed * 7919;
            long first = next(one);
            long third = next(next(first));
            boolean said = draw(first, 6) == 2 && draw(third, 2) == 1 && draw(next(third), 2) == 0;
            Check.due(said ? 14 : 16, () -> z.years(one, 1, 2));
        }
        // Which TRUNK is TURNED.
        GrownWords t = Check.told("word abcdefgh 1;word bcdefghi 3;trunk 0 1 0;trunk 1 0 0;trunk 0 0 0;grows said - 1;");
        for (int seed = 0; seed < 100; seed++) {
            int one = seed * 104729;
            long first = next(one);
            int which = draw(first, 6) == 0 ? draw(next(first), 3) : 3;
            int packed = draw(first, 6) == 2 ? 1 : 0;
            int more = which == 0 ? 4 : which == 1 ? 0 : 2;
            if (packed == 0) {
                Check.due(48 - more, () -> t.years(one, 1, 2));
            }
        }
    }

    private static void packedAlready() {
        // Of one WORD each PACKED one is that already.
        int many = 0;
        for (int seed = 0; seed < 60; seed++) {
            long first = next(seed);
            if (draw(first, 6) == 2) {
                int one = seed;
                many++;
                GrownWords x = Check.told(ONE_WORD + "3;grows 1;");
                x.days(5);
                Check.due(15, () -> x.years(one, 1, 2));
                Check.due(5, () -> x.trunk(0, 3));
            }
        }
        int found = many;
        Check.due(1, () -> found > 0 ? 1 : 0);
    }

    private static void howOften() {
        // One that is FULL, and made anew ahead of a DAY on which it becomes so again, counts; one that stays FULL doesn't.
        GrownWords x = Check.told("word a 1;trunk 0 0 3;grows 1;");
        x.days(1);
        for (int seed = 0; seed < 60; seed++) {
            int one = seed;
            int kind = draw(next(seed), 6);
            Check.due(kind == 0 || kind == 2 ? 1 : 0, () -> x.years(one, 1, 0));
            Check.due(1, () -> x.years(one, 1, 1));
            Check.due(1, () -> x.years(one, 1, 2));
        }
        // Six at once.
        GrownWords y = Check.told("word a 1;" + Check.times(6, "trunk 0 0 3;") + "grows 1;");
        Check.due(6, () -> y.years(1, 1, 0));
        Check.due(6, () -> y.years(1, 60, 1));
        Check.due(6, () -> y.years(1, 60, 2));
    }

    private static void yearsWithoutTrunks() {
        GrownWords none = new GrownWords();
        GrownWords words = Check.told("word a 1;");
        for (int seed : SEEDS) {
            for (int what = 0; what <= 2; what++) {
                int w = what;
                Check.due(0, () -> none.years(seed, 60, w));
                Check.due(0, () -> words.years(seed, 60, w));
            }
        }
    }

    private static void yearsTooFar() {
        for (int what = 0; what <= 2; what++) {
            int w = what;
            leavesRich(Check.WRONG, Check.NO_STATUS, x -> x.years(5, 61, w));
            leavesRich(Check.WRONG, Check.NO_STATUS, x -> x.years(5, -1, w));
        }
        leavesRich(Check.NO_SUCH, Check.NO_STATUS, x -> x.years(5, 0, 3));
        leavesRich(Check.NO_SUCH, Check.NO_STATUS, x -> x.years(5, 0, -1));
        leavesRich(Check.NO_SUCH, Check.NO_STATUS, x -> x.years(5, 61, 3));
        GrownWords none = new GrownWords();
        for (int far : Check.far()) {
            Check.due(Check.WRONG, () -> none.years(far, far, 0));
            Check.due(Check.NO_SUCH, () -> none.years(far, 0, far));
        }
    }

    // ---- STATUS and IMAGES

    private static void notCounted() {
        GrownWords x = Check.told(SMOKE);
        Check.Asked[] calls = {
            y -> y.baggage(1), y -> y.baggage(-1), y -> y.draw(3, 10), y -> y.pull(-1, 0), y -> y.turn(3), y -> y.pack(0, 2, 0),
            y -> y.pack(0, 0, 4), y -> y.see(3, 21, 17), y -> y.undo(), y -> y.feed(0, 0, 0, 0, 0), y -> y.then(0, 61, 0),
            y -> y.restore() ? 1 : 0
        };
        for (Check.Asked call : calls) {
            Check.answer(() -> call.of(x));
            for (int what = 10; what <= 12; what++) {
                int w = what;
                Check.due(0, () -> x.count(w));
            }
        }
        // A tape that is full refuses none of these, too.
        for (int k = 0; k < 40; k++) {
            x.feed(0, 0, 0, 0, 0);
        }
        for (int what = 10; what <= 12; what++) {
            int w = what;
            Check.due(0, () -> x.count(w));
        }
    }

    private static void imageKeeps() {
        GrownWords x = new GrownWords();
        Check.rich(x);
        x.image();
        java.util.Map<String, Integer> was = Check.everything(x);
        x.days(5);
        x.draw(0, 9);
        x.draw(1, 0);
        x.turn(0);
        x.pack(2, 0, 2);
        x.undo();
        x.turn(2);
        x.forget();
        x.see(2, 3, 4);
        x.see(2, 3, 5);
        x.see(2, 3, 6);
        x.days(0);
        x.see(0, 0, 17);
        Check.due(1, () -> x.restore() ? 1 : 0);
        java.util.Map<String, Integer> now = Check.everything(x);
        for (String name : was.keySet()) {
            int want = was.get(name);
            int got = now.get(name);
            Check.due(want, () -> got);
        }
        Check.due(6, () -> x.undo());
        // The tape and fault() are none of it.
        GrownWords y = new GrownWords();
        Check.rich(y);
        y.image();
        y.feed(0, 0, 0, 0, 0);
        Check.due(1, () -> y.restore() ? 1 : 0);
        Check.due(60, () -> y.count(9));
        Check.due(2, () -> y.count(10));
        Check.due(1, () -> y.baggage(60));
        Check.due(35, () -> y.fault());
        Check.due(3, () -> y.count(10));
        Check.due(1, () -> y.restore() ? 1 : 0);
        Check.due(2, () -> y.count(10));
        Check.due(35, () -> y.fault());
        Check.due(0, () -> y.count(9));
        // Of what is SEEN the TRUNK, the DAYS, the LETTERS.
        GrownWords seen = Check.told(ONE_WORD + "4;trunk 0 0 6;heat 5;");
        seen.see(0, 3, 13);
        seen.see(1, 4, 16);
        Check.due(4 + 4, () -> seen.loose(0));
        int[][] others = {{1, 3, 13}, {0, 4, 13}, {0, 3, 12}};
        for (int[] one : others) {
            seen.image();
            seen.forget();
            seen.see(one[0], one[1], one[2]);
            seen.see(1 - one[0], 4, 11);
            Check.due(0, () -> seen.loose(0));
            Check.due(1, () -> seen.restore() ? 1 : 0);
            Check.due(8, () -> seen.loose(0));
            Check.due(1, () -> seen.loose(2));
        }
        // That one is kept changes nothing.
        Check.leaves(BoundarySeenTests::withImage, 0, Check.NO_STATUS, z -> image(z));
    }

    private static void withImage(GrownWords x) {
        Check.rich(x);
        x.image();
    }

    private static int image(GrownWords x) {
        x.image();
        return 0;
    }

    private static void anotherImage() {
        GrownWords x = Check.told(SMOKE);
        x.image();
        x.days(1);
        x.see(0, 0, 7);
        x.days(0);
        x.image();
        x.days(1);
        x.undo();
        x.undo();
        x.forget();
        Check.due(1, () -> x.restore() ? 1 : 0);
        Check.due(1, () -> x.count(2));
        Check.due(1, () -> x.count(7));
        Check.due(1, () -> x.count(8));
        Check.due(1, () -> x.count(11));
        Check.due(0, () -> x.undo());
        Check.due(0, () -> x.count(2));
        // One of a new object: no TRUNKS.
        GrownWords y = new GrownWords();
        y.image();
        y.days(3);
        Check.due(1, () -> y.restore() ? 1 : 0);
        Check.due(0, () -> y.count(2));
    }

    private static void again() {
        // As often as one likes; what comes behind it doesn't change the IMAGE; with 40 ACTS, and 8 SEEN.
        GrownWords x = Check.told(ONE_WORD + "4;");
        for (int k = 0; k < 45; k++) {
            x.days(1);
        }
        for (int k = 0; k < 8; k++) {
            x.see(0, k, 8);
        }
        x.image();
        for (int k = 0; k < 3; k++) {
            x.forget();
            x.see(0, 0, 1);
            for (int i = 0; i < 20; i++) {
                x.undo();
            }
            for (int i = 0; i < 30; i++) {
                x.turn(0);
            }
            x.draw(0, 9);
            Check.due(1, () -> x.restore() ? 1 : 0);
            Check.due(45, () -> x.count(2));
            Check.due(40, () -> x.count(7));
            Check.due(8, () -> x.count(8));
            Check.due(1, () -> x.loose(2));
            Check.due(8, () -> x.trunk(0, 3));
            Check.due(4, () -> x.trunk(0, 2));
        }
        for (int left = 39; left >= 0; left--) {
            int want = left;
            Check.due(want, () -> x.undo());
            Check.due(5 + want, () -> x.count(2));
        }
        Check.due(5, () -> x.trunk(0, 3));
    }

    private static void noImage() {
        GrownWords x = new GrownWords();
        Check.due(0, () -> x.restore() ? 1 : 0);
        Check.leaves(BoundarySeenTests::withoutImage, 0, Check.NO_STATUS, y -> y.restore() ? 1 : 0);
        // Gone with BAGGAGE, not with a FAULT.
        x.image();
        Check.due(1, () -> Check.tell(x, "#"));
        Check.due(1, () -> x.restore() ? 1 : 0);
        Check.due(0, () -> x.baggage(0));
        Check.due(0, () -> x.restore() ? 1 : 0);
        x.image();
        Check.due(1, () -> x.restore() ? 1 : 0);
    }

    private static void withoutImage(GrownWords x) {
        Check.tell(x, SMOKE);
        x.days(2);
        x.see(0, 0, 7);
        x.days(0);
        x.see(0, 0, 17);
        x.turn(1);
    }
}
