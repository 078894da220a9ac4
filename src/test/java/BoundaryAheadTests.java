/** A test for each sentence on what is so if only DAYS go by that names a boundary case (promises 15 to 20, 24). */
public final class BoundaryAheadTests {
    private static final String SMOKE = "word smoke 3;word fog 5;word keg 1;word gof 2;"
        + "trunk 0 1 4;treaty 2 1 2;trunk 1 3 9;heat 6 3;";

    /** FULL, with a LETTER less, behind the 60th DAY (the DAY 59) by a STRAP of 1, behind the 61st by one of 2. */
    private static final String SIXTY = "grows (day = 59 and strap = 1 or day = 60 and strap = 2) * 2;";

    public static void main(String[] args) {
        then();
        blendAndLater();
        first();
        toDraw();
        Check.end();
    }

    private static void then() {
        Check.sentence("THEN, behind so many DAYS (0 to 60)", BoundaryAheadTests::thenSixtyDays);
        Check.sentence("then: IllegalArgumentException (behind that): not 0 to 60.", BoundaryAheadTests::thenTooFar);
        Check.sentence("then: NoSuchElementException: also another what.", BoundaryAheadTests::thenOfNone);
        Check.sentence("NEAREST then: .. (of like ones the least)", BoundaryAheadTests::nearestOfLikes);
        Check.sentence("which (2; NONE: no WORDS), how many CHANGES (3)", BoundaryAheadTests::nearestItself);
        Check.sentence("(If only DAYS go by, from now on:)", BoundaryAheadTests::nothingChanges);
    }

    private static void blendAndLater() {
        Check.sentence("the i-th of these (0 the first; 1: a, 26: z)", BoundaryAheadTests::firstLetter);
        Check.sentence("NONE: it has fewer, i below 0.", BoundaryAheadTests::noLetter);
        Check.sentence("blend: IllegalArgumentException (behind NoSuchElementException): not 0 to 60.",
            BoundaryAheadTests::blendTooFar);
        Check.sentence("FULL ones then (bits).", BoundaryAheadTests::fullOnes);
        Check.sentence("LONGEST BLEND then (of like ones the least TRUNK); none.", BoundaryAheadTests::longest);
        Check.sentence("GAINED in so many DAYS (0 to 60)", BoundaryAheadTests::gained);
        Check.sentence("later: NoSuchElementException: another what. IllegalArgumentException (behind that): not 0 to 60.",
            BoundaryAheadTests::laterTooFar);
    }

    private static void first() {
        Check.sentence("FULL: behind how many DAYS (0 to 60) a TRUNK is FULL first; none.", BoundaryAheadTests::fullFirst);
        Check.sentence("full: NoSuchElementException", BoundaryAheadTests::fullOfNone);
        Check.sentence("READ: behind how many DAYS (0 to 60) .. first stand in the BLEND", BoundaryAheadTests::readFirst);
        Check.sentence("side by side, in their order; none.", BoundaryAheadTests::readSideBySide);
        Check.sentence("read: NoSuchElementException", BoundaryAheadTests::readOfNone);
        Check.sentence("ALIKE: behind how many DAYS (0 to 60) BLENDS of two TRUNKS are first the same; none.",
            BoundaryAheadTests::alikeFirst);
        Check.sentence("ALIKE; NONE: none, both are one.", BoundaryAheadTests::alikeItself);
        Check.sentence("alike: NoSuchElementException", BoundaryAheadTests::alikeOfNone);
    }

    private static void toDraw() {
        Check.sentence("TO DRAW: the greatest STRAP (0 to 9)", BoundaryAheadTests::greatestStrap);
        Check.sentence("so that it is FULL behind so many DAYS (0 to 60); none.", BoundaryAheadTests::fullBehindSixty);
        Check.sentence("toDraw: IllegalArgumentException (behind NoSuchElementException): not 0 to 60.",
            BoundaryAheadTests::toDrawTooFar);
    }

    private static void throwsOn(int want, Check.Asked call) {
        Check.leaves(Check::rich, want, Check.NO_STATUS, call);
    }

    // ---- THEN

    private static void thenSixtyDays() {
        GrownWords x = Check.told("word abcdefgh 1;trunk 0 0 1;trunk 0 0 2;grows day = 0 and strap = 1 or day = 59;");
        Check.due(0, () -> x.then(0, 0, 0));
        Check.due(16, () -> x.then(0, 0, 1));
        Check.due(1, () -> x.then(0, 1, 0));
        Check.due(1, () -> x.then(0, 59, 0));
        Check.due(2, () -> x.then(0, 60, 0));
        Check.due(14, () -> x.then(0, 60, 1));
        Check.due(0, () -> x.then(1, 59, 0));
        Check.due(1, () -> x.then(1, 60, 0));
        // From now on.
        x.days(1);
        Check.due(1, () -> x.then(0, 0, 0));
        Check.due(1, () -> x.then(0, 58, 0));
        Check.due(2, () -> x.then(0, 59, 0));
        x.days(1);
        Check.due(1, () -> x.then(1, 58, 0));
        Check.due(0, () -> x.then(1, 57, 0));
    }

    private static void thenTooFar() {
        for (int what = 0; what <= 3; what++) {
            int w = what;
            throwsOn(Check.WRONG, x -> x.then(0, 61, w));
            throwsOn(Check.WRONG, x -> x.then(0, -1, w));
        }
        GrownWords x = Check.told(SMOKE);
        for (int far : Check.far()) {
            Check.due(Check.WRONG, () -> x.then(2, far, 0));
        }
        Check.due(0, () -> x.then(2, 60, 0));
    }

    private static void thenOfNone() {
        int[][] wrong = {{3, 0, 0}, {-1, 0, 0}, {0, 0, 4}, {0, 0, -1}, {3, 61, 0}, {0, 61, 4}, {-1, -1, -1}};
        for (int[] one : wrong) {
            throwsOn(Check.NO_SUCH, x -> x.then(one[0], one[1], one[2]));
        }
        GrownWords x = Check.told(SMOKE);
        for (int far : Check.far()) {
            Check.due(Check.NO_SUCH, () -> x.then(far, 0, 0));
            Check.due(Check.NO_SUCH, () -> x.then(0, 0, far));
        }
    }

    private static void nearestOfLikes() {
        // ab is one CHANGE from b, from a, from abc.
        GrownWords x = Check.told("word b 1;word a 2;word abc 1;trunk 1 0 9;");
        Check.due(0, () -> x.then(0, 0, 2));
        Check.due(1, () -> x.then(0, 0, 3));
        GrownWords y = Check.told("word xyz 1;word a 2;word b 1;trunk 1 2 9;");
        Check.due(1, () -> y.then(0, 0, 2));
        Check.due(1, () -> y.then(0, 0, 3));
        // The last of 8 WORDS.
        GrownWords z = Check.told("word a 0;word b 1;word c 2;word d 3;word e 4;word f 5;word g 6;word cd 9;trunk 2 3 0;");
        Check.due(7, () -> z.then(0, 0, 2));
        Check.due(0, () -> z.then(0, 0, 3));
        Check.due(3, () -> z.then(0, 1, 2));
    }

    private static void nearestItself() {
        GrownWords x = Check.told("word ab 1;word bc 1;word abc 1;trunk 0 1 4;");
        Check.due(2, () -> x.then(0, 0, 2));
        Check.due(1, () -> x.then(0, 0, 3));
        Check.due(2, () -> x.then(0, 1, 2));
        Check.due(0, () -> x.then(0, 1, 3));
        GrownWords y = Check.told("word abcdefgh 1;trunk 0 0 4;");
        Check.due(0, () -> y.then(0, 0, 2));
        Check.due(8, () -> y.then(0, 0, 3));
        Check.due(0, () -> y.then(0, 8, 3));
        GrownWords far = Check.told("word ab 1;word cdefghij 1;word klmnopqr 1;trunk 1 2 4;trunk 0 0 4;");
        Check.due(1, () -> far.then(0, 0, 2));
        Check.due(8, () -> far.then(0, 0, 3));
        far.pack(0, 1, 1);
        Check.due(1, () -> far.then(0, 0, 2));
        Check.due(0, () -> far.then(1, 0, 2));
        GrownWords none = new GrownWords();
        Check.due(Check.NO_SUCH, () -> none.then(0, 0, 2));
        GrownWords noTrunk = Check.told("word a 1;");
        Check.due(Check.NO_SUCH, () -> noTrunk.then(0, 0, 2));
    }

    private static void nothingChanges() {
        Check.Asked[] calls = {
            x -> x.then(0, 60, 0), x -> x.blend(1, 0, 60), x -> x.later(60, 2), x -> x.full(0), x -> x.read(0, 3),
            x -> x.alike(0, 1), x -> x.toDraw(0, 60), x -> x.seasons(0, 5, 5), x -> x.game(0, 1, 0), x -> x.years(3, 60, 2),
            x -> x.loose(0), x -> x.look(1), x -> x.couples(), x -> x.trunk(0, 7), x -> x.row(-1), x -> x.chain(-1),
            x -> x.both(0, 1, 2)
        };
        for (Check.Asked call : calls) {
            GrownWords alone = new GrownWords();
            Check.rich(alone);
            int want = Check.answer(() -> call.of(alone));
            Check.leaves(Check::rich, want, Check.NO_STATUS, call);
        }
    }

    // ---- the BLEND, LATER

    private static void firstLetter() {
        GrownWords x = Check.told("word abcdefgh 1;word stuvwxyz 1;trunk 0 1 4;trunk 1 0 4;");
        Check.due(1, () -> x.blend(0, 0, 0));
        Check.due(26, () -> x.blend(0, 15, 0));
        Check.due(19, () -> x.blend(0, 8, 0));
        Check.due(26, () -> x.blend(1, 7, 0));
        Check.due(8, () -> x.blend(1, 15, 0));
        Check.due(1, () -> x.blend(0, 0, 60));
        Check.due(26, () -> x.blend(0, 7, 60));
    }

    private static void noLetter() {
        GrownWords x = Check.told("word abcdefgh 1;word stuvwxyz 1;word a 1;trunk 0 1 4;trunk 2 2 9;");
        Check.due(-1, () -> x.blend(0, 16, 0));
        Check.due(26, () -> x.blend(0, 14, 1));
        Check.due(-1, () -> x.blend(0, 15, 1));
        Check.due(-1, () -> x.blend(0, 8, 60));
        Check.due(1, () -> x.blend(1, 1, 60));
        Check.due(-1, () -> x.blend(1, 2, 60));
        Check.due(-1, () -> x.blend(1, -1, 60));
        for (int far : Check.far()) {
            Check.due(-1, () -> x.blend(0, far, 0));
        }
    }

    private static void blendTooFar() {
        throwsOn(Check.WRONG, x -> x.blend(0, 0, 61));
        throwsOn(Check.WRONG, x -> x.blend(0, 0, -1));
        throwsOn(Check.WRONG, x -> x.blend(0, -1, 61));
        throwsOn(Check.WRONG, x -> x.blend(0, 99, -1));
        throwsOn(Check.NO_SUCH, x -> x.blend(3, 0, 61));
        throwsOn(Check.NO_SUCH, x -> x.blend(-1, -1, 0));
        GrownWords x = Check.told(SMOKE);
        for (int far : Check.far()) {
            Check.due(Check.WRONG, () -> x.blend(0, 0, far));
            Check.due(Check.NO_SUCH, () -> x.blend(far, 0, far));
        }
        Check.due(6, () -> x.blend(2, 0, 60));
    }

    private static void fullOnes() {
        GrownWords x = Check.told("word a 1;" + Check.times(6, "trunk 0 0 1;"));
        Check.due(0, () -> x.later(0, 0));
        Check.due(63, () -> x.later(1, 0));
        GrownWords y = Check.told("word a 1;trunk 0 0 1;trunk 0 0 2;" + SIXTY);
        Check.due(0, () -> y.later(59, 0));
        Check.due(1, () -> y.later(60, 0));
        y.days(1);
        Check.due(1, () -> y.later(59, 0));
        Check.due(3, () -> y.later(60, 0));
        GrownWords none = new GrownWords();
        Check.due(0, () -> none.later(60, 0));
    }

    private static void longest() {
        GrownWords x = Check.told("word ab 1;word abc 1;trunk 0 0 4;trunk 1 1 4;trunk 1 1 9;");
        Check.due(1, () -> x.later(0, 1));
        Check.due(2, () -> x.later(1, 1));
        Check.due(2, () -> x.later(60, 1));
        GrownWords like = Check.told("word ab 1;" + Check.times(6, "trunk 0 0 4;"));
        Check.due(0, () -> like.later(0, 1));
        Check.due(0, () -> like.later(60, 1));
        GrownWords least = Check.told("word a 1;trunk 0 0 4;");
        Check.due(0, () -> least.later(60, 1));
        GrownWords last = Check.told("word a 1;word ab 1;" + Check.times(5, "trunk 0 0 4;") + "trunk 0 1 4;");
        Check.due(5, () -> last.later(0, 1));
        GrownWords none = new GrownWords();
        Check.due(-1, () -> none.later(0, 1));
        Check.due(-1, () -> none.later(60, 1));
        GrownWords words = Check.told("word ab 1;");
        Check.due(-1, () -> words.later(3, 1));
    }

    private static void gained() {
        GrownWords x = Check.told("word abcdefgh 1;" + Check.times(6, "treaty 0 0 1;"));
        Check.due(0, () -> x.later(0, 2));
        Check.due(12, () -> x.later(1, 2));
        Check.due(48, () -> x.later(60, 2));
        x.days(3);
        Check.due(0, () -> x.later(0, 2));
        Check.due(12, () -> x.later(60, 2));
        GrownWords y = Check.told("word a 1;trunk 0 0 1;trunk 0 0 2;" + SIXTY);
        Check.due(0, () -> y.later(59, 2));
        Check.due(1, () -> y.later(60, 2));
        GrownWords none = new GrownWords();
        Check.due(0, () -> none.later(60, 2));
    }

    private static void laterTooFar() {
        for (int what = 0; what <= 2; what++) {
            int w = what;
            throwsOn(Check.WRONG, x -> x.later(61, w));
            throwsOn(Check.WRONG, x -> x.later(-1, w));
        }
        throwsOn(Check.NO_SUCH, x -> x.later(0, 3));
        throwsOn(Check.NO_SUCH, x -> x.later(0, -1));
        throwsOn(Check.NO_SUCH, x -> x.later(61, 3));
        GrownWords none = new GrownWords();
        for (int far : Check.far()) {
            Check.due(Check.WRONG, () -> none.later(far, 0));
            Check.due(Check.NO_SUCH, () -> none.later(far, far));
        }
    }

    // ---- what is so first

    private static void fullFirst() {
        GrownWords x = Check.told("word a 1;trunk 0 0 1;trunk 0 0 2;" + SIXTY);
        Check.due(60, () -> x.full(0));
        Check.due(-1, () -> x.full(1));
        x.days(1);
        Check.due(59, () -> x.full(0));
        Check.due(60, () -> x.full(1));
        x.days(20);
        x.days(20);
        x.days(19);
        Check.due(0, () -> x.full(0));
        Check.due(1, () -> x.full(1));
        x.days(1);
        Check.due(0, () -> x.full(1));
        x.turn(0);
        Check.due(-1, () -> x.full(0));
    }

    private static void fullOfNone() {
        throwsOn(Check.NO_SUCH, x -> x.full(3));
        throwsOn(Check.NO_SUCH, x -> x.full(-1));
        GrownWords x = Check.told(SMOKE);
        for (int far : Check.far()) {
            Check.due(Check.NO_SUCH, () -> x.full(far));
        }
    }

    private static void readFirst() {
        // abbc, then ac with the 60th DAY, with the 61st.
        GrownWords x = Check.told("word ab 1;word bc 1;word ac 1;trunk 0 1 1;trunk 0 1 2;" + SIXTY);
        Check.due(0, () -> x.read(0, 0));
        Check.due(0, () -> x.read(0, 1));
        Check.due(60, () -> x.read(0, 2));
        Check.due(-1, () -> x.read(1, 2));
        x.days(1);
        Check.due(59, () -> x.read(0, 2));
        Check.due(60, () -> x.read(1, 2));
        // What could be read is gone then; what is read stays.
        x.days(20);
        x.days(20);
        x.days(19);
        Check.due(0, () -> x.read(0, 2));
        Check.due(-1, () -> x.read(0, 0));
        Check.due(0, () -> x.read(1, 0));
    }

    private static void readSideBySide() {
        GrownWords x = Check.told("word abcdefgh 1;word efgh 2;word h 3;word gh 4;word aceg 1;word hgfe 1;word efghab 1;word ha 1;"
            + "trunk 0 0 9;trunk 1 2 9;trunk 3 3 9;");
        // At the end, in the midst (where both halves meet), all of it; not with others between, nor turned round.
        int[] first = {0, 0, 0, 0, -1, -1, 0, 0};
        for (int word = 0; word < 8; word++) {
            int w = word;
            Check.due(first[w], () -> x.read(0, w));
        }
        int[] second = {-1, 0, 0, 0, -1, -1, -1, -1};
        for (int word = 0; word < 8; word++) {
            int w = word;
            Check.due(second[w], () -> x.read(1, w));
        }
        // A WORD that is longer than the BLEND, and one that is as long.
        Check.due(-1, () -> x.read(2, 1));
        GrownWords y = Check.told("word ab 1;word abab 1;word ababa 1;trunk 0 0 9;");
        Check.due(0, () -> y.read(0, 1));
        Check.due(-1, () -> y.read(0, 2));
    }

    private static void readOfNone() {
        int[][] wrong = {{3, 0}, {-1, 0}, {0, 4}, {0, -1}, {3, 4}};
        for (int[] one : wrong) {
            throwsOn(Check.NO_SUCH, x -> x.read(one[0], one[1]));
        }
        GrownWords x = Check.told(SMOKE);
        for (int far : Check.far()) {
            Check.due(Check.NO_SUCH, () -> x.read(far, 0));
            Check.due(Check.NO_SUCH, () -> x.read(0, far));
        }
    }

    private static void alikeFirst() {
        // abab is ab behind the 60th DAY, as the BLEND of a and b, which can't grow, is from now on.
        GrownWords x = Check.told("word ab 1;word a 1;word b 1;trunk 0 0 1;trunk 1 2 5;trunk 0 0 2;trunk 0 0 7;" + SIXTY);
        Check.due(60, () -> x.alike(0, 1));
        Check.due(60, () -> x.alike(1, 0));
        Check.due(-1, () -> x.alike(2, 1));
        Check.due(0, () -> x.alike(0, 3));
        Check.due(0, () -> x.alike(0, 2));
        x.days(1);
        Check.due(59, () -> x.alike(0, 1));
        Check.due(60, () -> x.alike(1, 2));
        // As many LETTERS, but others; the one the beginning of the other.
        GrownWords y = Check.told("word ab 1;word ba 1;word a 1;trunk 0 0 9;trunk 1 1 9;trunk 0 2 9;trunk 2 1 9;");
        Check.due(-1, () -> y.alike(0, 1));
        Check.due(-1, () -> y.alike(0, 2));
        Check.due(0, () -> y.alike(2, 3));
    }

    private static void alikeItself() {
        GrownWords x = Check.told("word a 1;trunk 0 0 1;trunk 0 0 1;");
        Check.due(-1, () -> x.alike(0, 0));
        Check.due(-1, () -> x.alike(1, 1));
        Check.due(0, () -> x.alike(0, 1));
        throwsOn(-1, y -> y.alike(2, 2));
    }

    private static void alikeOfNone() {
        int[][] wrong = {{3, 0}, {0, 3}, {-1, 0}, {0, -1}, {3, 3}, {-1, -1}};
        for (int[] one : wrong) {
            throwsOn(Check.NO_SUCH, x -> x.alike(one[0], one[1]));
        }
        GrownWords x = Check.told(SMOKE);
        for (int far : Check.far()) {
            Check.due(Check.NO_SUCH, () -> x.alike(far, 0));
            Check.due(Check.NO_SUCH, () -> x.alike(0, far));
            Check.due(Check.NO_SUCH, () -> x.alike(far, far));
        }
    }

    // ---- TO DRAW

    private static void greatestStrap() {
        // By each STRAP alone, and by its own too.
        for (int strap = 0; strap <= 9; strap++) {
            int want = strap;
            GrownWords x = Check.told("word a 1;trunk 0 0 5;grows strap = " + strap + ";");
            Check.due(want, () -> x.toDraw(0, 1));
            Check.due(-1, () -> x.toDraw(0, 0));
        }
        GrownWords all = Check.told("word a 1;trunk 0 0 5;grows 1;");
        Check.due(9, () -> all.toDraw(0, 1));
        GrownWords none = Check.told("word a 1;trunk 0 0 5;grows strap = 10;");
        Check.due(-1, () -> none.toDraw(0, 60));
        // HEAT 9 is above 8, HEAT 0 above none.
        GrownWords hot = Check.told("word a 1;trunk 0 0 0;heat 9;");
        Check.due(8, () -> hot.toDraw(0, 1));
        GrownWords mild = Check.told("word a 1;trunk 0 0 9;heat 1;");
        Check.due(0, () -> mild.toDraw(0, 1));
        GrownWords cold = Check.told("word a 1;trunk 0 0 0;heat 0;");
        Check.due(-1, () -> cold.toDraw(0, 60));
    }

    private static void fullBehindSixty() {
        GrownWords x = Check.told("word a 1;trunk 0 0 5;" + SIXTY);
        Check.due(-1, () -> x.toDraw(0, 0));
        Check.due(-1, () -> x.toDraw(0, 59));
        Check.due(1, () -> x.toDraw(0, 60));
        x.days(1);
        Check.due(1, () -> x.toDraw(0, 59));
        Check.due(2, () -> x.toDraw(0, 60));
        // One that is FULL is so by any STRAP.
        GrownWords y = Check.told("word a 1;trunk 0 0 4;");
        y.days(1);
        Check.due(9, () -> y.toDraw(0, 0));
        Check.due(9, () -> y.toDraw(0, 60));
        // What it is GROWN by now counts.
        GrownWords z = Check.told("word abc 1;trunk 0 0 4;");
        z.days(2);
        Check.due(-1, () -> z.toDraw(0, 0));
        Check.due(4, () -> z.toDraw(0, 1));
    }

    private static void toDrawTooFar() {
        throwsOn(Check.WRONG, x -> x.toDraw(0, 61));
        throwsOn(Check.WRONG, x -> x.toDraw(0, -1));
        throwsOn(Check.NO_SUCH, x -> x.toDraw(3, 0));
        throwsOn(Check.NO_SUCH, x -> x.toDraw(-1, 0));
        throwsOn(Check.NO_SUCH, x -> x.toDraw(3, 61));
        GrownWords x = Check.told(SMOKE);
        for (int far : Check.far()) {
            Check.due(Check.WRONG, () -> x.toDraw(0, far));
            Check.due(Check.NO_SUCH, () -> x.toDraw(far, far));
        }
    }
}
