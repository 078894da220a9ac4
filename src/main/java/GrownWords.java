import java.util.NoSuchElementException;

/** Words, and trunks in which two of them grow into each other; shared/DOC.md says what each call answers. */
public final class GrownWords {
    public static final int NONE = -1;

    private static final int MOST_BYTES = 700;
    private static final int MOST_DIGITS = 4;
    private static final int MOST_WORDS = 8;
    private static final int MOST_LETTERS = 8;
    private static final int MOST_TRUNKS = 6;
    private static final int MOST_HEATS = 8;
    private static final int MOST_ACTS = 40;
    private static final int MOST_SEEN = 8;
    private static final int GREATEST_DIGIT = 9;
    private static final int HEAT_UNTOLD = 5;
    private static final int LAST_DAY = 999;
    private static final int DAYS_AHEAD = 60;
    private static final int DAYS_AT_ONCE = 20;
    private static final int DAYS_OF_A_LOOK = 6;
    private static final int DAYS_OF_A_GAME = 4;

    private static final int REFUSED_TEXTS = 0;
    private static final int REFUSED_ACTS = 1;
    private static final int REFUSED_SEEN = 2;

    private int faultPlace = NONE;
    private Load load = new Load();
    // A TEXT is read into the spare one, so that a FAULT leaves the other as it was.
    private Load spare = new Load();
    private final Reader reader = new Reader();
    private final int[] orderRoom = new int[(1 << MOST_WORDS) * MOST_WORDS];
    private final Story story = new Story();
    private final Story imaged = new Story();
    private boolean hasImage = false;

    // Made once and used by every call again: no call makes an object but an exception.
    private final Measure measure = new Measure();
    private final Pairing pairing = new Pairing();
    private final Trunk probe = new Trunk();
    private final Trunk rival = new Trunk();
    private final Trunks dream = new Trunks();
    private final Letters blend = new Letters(2 * MOST_LETTERS);
    private final Letters otherBlend = new Letters(2 * MOST_LETTERS);
    private int seed = 0;

    public GrownWords() {
    }

    // ---- the tape and what it tells

    public int feed(int a, int b, int c, int d, int e) {
        if (reader.text.tapeSize + 20 > MOST_BYTES) {
            return NONE;
        }
        reader.text.takeBytes(a);
        reader.text.takeBytes(b);
        reader.text.takeBytes(c);
        reader.text.takeBytes(d);
        reader.text.takeBytes(e);
        return reader.text.tapeSize;
    }

    public int baggage(int n) throws IllegalArgumentException {
        mustFit(n >= 0 && n <= reader.text.tapeSize);
        spare.forgetAll();
        reader.begin(n);
        // Each LINE takes a byte at least.
        for (int k = 0; k < MOST_BYTES && reader.goesOn(); k++) {
            reader.readLine(spare);
        }
        faultPlace = reader.place();
        if (reader.faultKind() != 0) {
            story.refuse(REFUSED_TEXTS);
            return reader.faultKind();
        }
        Load old = load;
        load = spare;
        spare = old;
        load.words.settle(orderRoom);
        story.beginWith(load.told);
        hasImage = false;
        return 0;
    }

    public int fault() {
        return faultPlace;
    }

    // ---- what is so now

    public int count(int what) throws NoSuchElementException {
        switch (what) {
            case 0:
                return load.words.many();
            case 1:
                return trunkCount();
            case 2:
                return story.now.day;
            case 3:
                return load.heatOf(story.now.day);
            case 4:
                return load.howManyFull(story.now);
            case 5:
                return treaties();
            case 6:
                return load.lettersOfAll(story.now);
            case 7:
                return story.actsKept();
            case 8:
                return story.seenSize();
            case 9:
                return reader.text.tapeSize;
            default:
                mustBe(what >= 10 && what <= 12);
                return story.refusals(what - 10);
        }
    }

    private int trunkCount() {
        return story.now.count;
    }

    private int treaties() {
        int bits = 0;
        for (int t = 0; t < trunkCount(); t++) {
            if (story.now.get(t).treaty) {
                bits |= 1 << t;
            }
        }
        return bits;
    }

    public int word(int word, int what) throws NoSuchElementException {
        mustBe(isWord(word) && what >= 0 && what <= 4);
        switch (what) {
            case 0:
                return load.words.of(word).length();
            case 1:
                return load.words.firmness(word);
            case 2:
                return load.words.within(word);
            case 3:
                return load.words.anagrams(word);
            default:
                return trunksWith(word);
        }
    }

    private int trunksWith(int word) {
        int bits = 0;
        for (int t = 0; t < trunkCount(); t++) {
            Trunk one = story.now.get(t);
            if (one.said == word || one.meant == word) {
                bits |= 1 << t;
            }
        }
        return bits;
    }

    public int letter(int word, int i) throws NoSuchElementException {
        mustBe(isWord(word));
        Letters letters = load.words.of(word);
        mustBe(i >= 0 && i < letters.length());
        return letters.signAt(i);
    }

    public int trunk(int trunk, int what) throws NoSuchElementException {
        mustBe(isTrunk(trunk) && what >= 0 && what <= 7);
        Trunk one = story.now.get(trunk);
        switch (what) {
            case 0:
                return one.said;
            case 1:
                return one.meant;
            case 2:
                return one.strap;
            case 3:
                return one.grown;
            case 4:
                return load.fullOf(one);
            case 5:
                return load.blendSize(one);
            case 6:
                return one.treaty ? 1 : 0;
            default:
                findCouples();
                return pairing.partnerOf(trunk);
        }
    }

    // ---- ACTS

    public int days(int many) {
        if (many < 1 || many > DAYS_AT_ONCE || story.now.day + many > LAST_DAY) {
            return story.refuse(REFUSED_ACTS);
        }
        story.keepAct();
        for (int i = 0; i < many; i++) {
            load.passDay(story.now);
        }
        return story.now.day;
    }

    public int draw(int trunk, int strap) throws NoSuchElementException {
        mustBe(isTrunk(trunk));
        Trunk one = story.now.get(trunk);
        if (strap < 0 || strap > GREATEST_DIGIT || strap == one.strap) {
            return story.refuse(REFUSED_ACTS);
        }
        story.keepAct();
        int before = one.strap;
        one.strap = strap;
        return before;
    }

    public int pull(int trunk, int much) throws NoSuchElementException {
        mustBe(isTrunk(trunk));
        Trunk one = story.now.get(trunk);
        if (much < 1 || much > 9 || one.grown == 0 || load.isFull(one) || one.treaty) {
            return story.refuse(REFUSED_ACTS);
        }
        story.keepAct();
        one.grown = Math.max(0, one.grown - much);
        return one.grown;
    }

    public int turn(int trunk) throws NoSuchElementException {
        mustBe(isTrunk(trunk));
        Trunk one = story.now.get(trunk);
        story.keepAct();
        int before = one.grown;
        one.turnRound();
        return before;
    }

    public int pack(int trunk, int half, int word) throws NoSuchElementException {
        mustBe(isTrunk(trunk) && (half == 0 || half == 1) && isWord(word));
        Trunk one = story.now.get(trunk);
        int before = half == 0 ? one.said : one.meant;
        if (before == word) {
            return story.refuse(REFUSED_ACTS);
        }
        story.keepAct();
        one.packIn(half, word);
        return before;
    }

    public int undo() {
        if (story.actsKept() == 0) {
            return NONE;
        }
        story.undoAct();
        return story.actsKept();
    }

    // ---- if only DAYS go by

    public int then(int trunk, int days, int what) throws NoSuchElementException, IllegalArgumentException {
        mustBe(isTrunk(trunk) && what >= 0 && what <= 3);
        mustFit(isAhead(days));
        growProbe(trunk, story.now.get(trunk).strap, days);
        if (what == 0) {
            return probe.grown;
        }
        if (what == 1) {
            return load.blendSize(probe);
        }
        load.blendInto(probe, blend);
        int nearest = nearestToBlend();
        return what == 2 ? nearest : measure.changes(blend, load.words.of(nearest));
    }

    private int nearestToBlend() {
        int nearest = NONE;
        int fewest = 0;
        for (int w = 0; w < load.words.many(); w++) {
            int changes = measure.changes(blend, load.words.of(w));
            if (nearest == NONE || changes < fewest) {
                nearest = w;
                fewest = changes;
            }
        }
        return nearest;
    }

    public int blend(int trunk, int i, int days) throws NoSuchElementException, IllegalArgumentException {
        mustBe(isTrunk(trunk));
        mustFit(isAhead(days));
        growProbe(trunk, story.now.get(trunk).strap, days);
        load.blendInto(probe, blend);
        return i >= 0 && i < blend.length() ? blend.signAt(i) : NONE;
    }

    public int later(int days, int what) throws NoSuchElementException, IllegalArgumentException {
        mustBe(what >= 0 && what <= 2);
        mustFit(isAhead(days));
        int fullOnes = 0;
        int longest = NONE;
        int mostLetters = 0;
        int gained = 0;
        for (int t = 0; t < trunkCount(); t++) {
            Trunk one = story.now.get(t);
            growProbe(t, one.strap, days);
            fullOnes |= load.isFull(probe) ? 1 << t : 0;
            if (load.blendSize(probe) > mostLetters) {
                longest = t;
                mostLetters = load.blendSize(probe);
            }
            gained += probe.grown - one.grown;
        }
        return what == 0 ? fullOnes : what == 1 ? longest : gained;
    }

    public int full(int trunk) throws NoSuchElementException {
        mustBe(isTrunk(trunk));
        probe.becomeAs(story.now.get(trunk));
        for (int day = 0; day <= DAYS_AHEAD; day++) {
            if (load.isFull(probe)) {
                return day;
            }
            growBy(probe, day);
        }
        return NONE;
    }

    public int read(int trunk, int word) throws NoSuchElementException {
        mustBe(isTrunk(trunk) && isWord(word));
        probe.becomeAs(story.now.get(trunk));
        for (int day = 0; day <= DAYS_AHEAD; day++) {
            load.blendInto(probe, blend);
            if (blend.holds(load.words.of(word))) {
                return day;
            }
            growBy(probe, day);
        }
        return NONE;
    }

    public int alike(int trunk, int other) throws NoSuchElementException {
        mustBe(isTrunk(trunk) && isTrunk(other));
        if (trunk == other) {
            return NONE;
        }
        probe.becomeAs(story.now.get(trunk));
        rival.becomeAs(story.now.get(other));
        for (int day = 0; day <= DAYS_AHEAD; day++) {
            load.blendInto(probe, blend);
            load.blendInto(rival, otherBlend);
            if (blend.isSame(otherBlend)) {
                return day;
            }
            growBy(probe, day);
            growBy(rival, day);
        }
        return NONE;
    }

    /** The TRUNK's own growth on the DAY that is so many DAYS from now. */
    private void growBy(Trunk one, int daysFromNow) {
        int day = story.now.day + daysFromNow;
        load.grow(one, day, load.heatOf(day));
    }

    /** The probe is the TRUNK behind so many DAYS, had it this STRAP now. */
    private void growProbe(int trunk, int strap, int days) {
        probe.becomeAs(story.now.get(trunk));
        probe.strap = strap;
        for (int day = 0; day < days; day++) {
            growBy(probe, day);
        }
    }

    // ---- WORDS among each other

    public int both(int word, int other, int what) throws NoSuchElementException {
        mustBe(isWord(word) && isWord(other) && what >= 0 && what <= 2);
        if (what == 0) {
            return load.words.overlapOf(word, other);
        }
        Letters from = load.words.of(word);
        Letters to = load.words.of(other);
        return what == 1 ? measure.changes(from, to) : measure.common(from, to);
    }

    public int row(int i) throws NoSuchElementException {
        if (i == NONE) {
            return load.words.rowLetters();
        }
        mustBe(i >= 0 && i < load.words.many());
        return load.words.inRow(i);
    }

    public int chain(int i) throws NoSuchElementException {
        if (i == NONE) {
            return load.words.chainSize();
        }
        mustBe(i >= 0 && i < load.words.chainSize());
        return load.words.inChain(i);
    }

    // ---- straps and couples

    public int toDraw(int trunk, int days) throws NoSuchElementException, IllegalArgumentException {
        mustBe(isTrunk(trunk));
        mustFit(isAhead(days));
        for (int strap = GREATEST_DIGIT; strap >= 0; strap--) {
            growProbe(trunk, strap, days);
            if (load.isFull(probe)) {
                return strap;
            }
        }
        return NONE;
    }

    public int couples() {
        findCouples();
        return pairing.total();
    }

    private void findCouples() {
        int many = trunkCount();
        for (int one = 0; one < many; one++) {
            load.blendInto(story.now.get(one), blend);
            for (int other = one + 1; other < many; other++) {
                load.blendInto(story.now.get(other), otherBlend);
                pairing.setCost(one, other, measure.changes(blend, otherBlend));
            }
        }
        pairing.find(many);
    }

    // ---- what is SEEN, and whose STRAP is LOOSE

    public int see(int trunk, int days, int letters) throws NoSuchElementException {
        mustBe(isTrunk(trunk));
        boolean fits = days >= 0 && days <= DAYS_AT_ONCE && letters >= 0 && letters <= 2 * MOST_LETTERS;
        if (!fits || story.seenSize() >= MOST_SEEN) {
            return story.refuse(REFUSED_SEEN);
        }
        story.addSeen(trunk, days, letters);
        return story.seenSize();
    }

    public int loose(int what) throws NoSuchElementException {
        mustBe(what >= 0 && what <= 2);
        int fitting = fittingTrunks();
        if (what == 2) {
            return fitting == allTrunks() ? 1 : 0;
        }
        int many = 0;
        int first = NONE;
        for (int t = 0; t < trunkCount(); t++) {
            int straps = looseStraps(t, fitting);
            if (straps != 0 && first == NONE) {
                first = 10 * t + lowestBit(straps);
            }
            many += Integer.bitCount(straps);
        }
        return what == 0 ? many : first;
    }

    public int look(int what) throws NoSuchElementException {
        mustBe(what == 0 || what == 1);
        int fitting = fittingTrunks();
        int many = 0;
        for (int t = 0; t < trunkCount(); t++) {
            many += Integer.bitCount(looseStraps(t, fitting));
        }
        int next = NONE;
        int mostUnlike = 0;
        for (int t = 0; t < trunkCount(); t++) {
            int straps = looseStraps(t, fitting);
            // Where another TRUNK's STRAP is the loose one, this TRUNK grows by its own.
            boolean byItsOwn = many > Integer.bitCount(straps);
            int unlike = Integer.bitCount(unlikeNumbers(t, straps, byItsOwn));
            if (unlike > mostUnlike) {
                next = t;
                mostUnlike = unlike;
            }
        }
        return what == 0 ? next : mostUnlike;
    }

    public void forget() {
        story.forgetSeen();
    }

    private int allTrunks() {
        return (1 << trunkCount()) - 1;
    }

    /** The TRUNKS (bits) of which all SEEN is so by the STRAPS that they have. */
    private int fittingTrunks() {
        int bits = 0;
        for (int t = 0; t < trunkCount(); t++) {
            if (fitsSeen(t, story.now.get(t).strap)) {
                bits |= 1 << t;
            }
        }
        return bits;
    }

    /** The STRAPS (bits) that are LOOSE for a TRUNK: only its own SEEN hangs on its STRAP. */
    private int looseStraps(int trunk, int fitting) {
        if ((fitting | 1 << trunk) != allTrunks()) {
            return 0;
        }
        int bits = 0;
        for (int strap = 0; strap <= GREATEST_DIGIT; strap++) {
            if (strap != story.now.get(trunk).strap && fitsSeen(trunk, strap)) {
                bits |= 1 << strap;
            }
        }
        return bits;
    }

    private boolean fitsSeen(int trunk, int strap) {
        int lastDay = story.lastSeenDay(trunk);
        probe.becomeAs(story.now.get(trunk));
        probe.strap = strap;
        for (int day = 0; day <= lastDay; day++) {
            if (!story.agrees(trunk, day, load.blendSize(probe))) {
                return false;
            }
            growBy(probe, day);
        }
        return true;
    }

    private int unlikeNumbers(int trunk, int straps, boolean byItsOwn) {
        int own = story.now.get(trunk).strap;
        int bits = 0;
        for (int strap = 0; strap <= GREATEST_DIGIT; strap++) {
            if ((straps & 1 << strap) != 0 || byItsOwn && strap == own) {
                growProbe(trunk, strap, DAYS_OF_A_LOOK);
                bits |= 1 << probe.grown;
            }
        }
        return bits;
    }

    // ---- chance, a game, years

    public int seasons(int trunk, int days, int tenths) throws NoSuchElementException, IllegalArgumentException {
        mustBe(isTrunk(trunk));
        mustFit(days >= 1 && days <= 5 && tenths >= 0 && tenths <= 10);
        int likely = 0;
        for (int hotDays = 0; hotDays < 1 << days; hotDays++) {
            probe.becomeAs(story.now.get(trunk));
            int share = 1;
            for (int day = 0; day < days; day++) {
                boolean hot = (hotDays & 1 << day) != 0;
                load.grow(probe, story.now.day + day, hot ? 9 : 0);
                share *= hot ? tenths : 10 - tenths;
            }
            likely += load.isFull(probe) ? share : 0;
        }
        return likely;
    }

    public int game(int trunk, int other, int what) throws NoSuchElementException, IllegalArgumentException {
        mustBe(isTrunk(trunk) && isTrunk(other) && (what == 0 || what == 1));
        mustFit(trunk != other);
        int many = 0;
        int first = NONE;
        for (int one = 0; one <= 1; one++) {
            for (int two = 0; two <= 1; two++) {
                // What the other officer does is the same for both choices of the one.
                if (ownGain(trunk, one) >= ownGain(trunk, 1 - one) && ownGain(other, two) >= ownGain(other, 1 - two)) {
                    first = first == NONE ? 10 * one + two : first;
                    many++;
                }
            }
        }
        return what == 0 ? many : first;
    }

    private int ownGain(int trunk, int drawn) {
        growProbe(trunk, drawn == 1 ? GREATEST_DIGIT : story.now.get(trunk).strap, DAYS_OF_A_GAME);
        return load.blendSize(probe) - drawn;
    }

    public int years(int seed, int n, int what) throws NoSuchElementException, IllegalArgumentException {
        mustBe(what >= 0 && what <= 2);
        mustFit(isAhead(n));
        this.seed = seed;
        dream.copyAll(story.now);
        int often = 0;
        for (int day = 0; day < n; day++) {
            drawAhead();
            // A DAY alone makes no full TRUNK less so: what is more behind it has become so.
            int before = load.howManyFull(dream);
            load.passDay(dream);
            often += load.howManyFull(dream) - before;
        }
        return what == 0 ? often : what == 1 ? load.howManyFull(dream) : load.lettersOfAll(dream);
    }

    private void drawAhead() {
        int kind = drawOf(6);
        if (dream.count == 0 || kind > 2) {
            return;
        }
        Trunk one = dream.get(drawOf(dream.count));
        if (kind == 0) {
            one.turnRound();
        } else if (kind == 1) {
            one.strap = drawOf(10);
        } else {
            int word = drawOf(load.words.many());
            one.packIn(drawOf(2), word);
        }
    }

    private int drawOf(int n) {
        seed = seed * 1103515245 + 12345;
        return n > 0 ? (seed >>> 16 & 0x7fff) % n : 0;
    }

    // ---- the IMAGE

    public void image() {
        imaged.takeOver(story);
        hasImage = true;
    }

    public boolean restore() {
        if (hasImage) {
            story.takeOver(imaged);
        }
        return hasImage;
    }

    // ---- what calls ask for, and rows of numbers

    private boolean isWord(int word) {
        return word >= 0 && word < load.words.many();
    }

    private boolean isTrunk(int trunk) {
        return trunk >= 0 && trunk < trunkCount();
    }

    private static boolean isAhead(int days) {
        return days >= 0 && days <= DAYS_AHEAD;
    }

    private static void mustBe(boolean there) {
        if (!there) {
            throw new NoSuchElementException();
        }
    }

    private static void mustFit(boolean fits) {
        if (!fits) {
            throw new IllegalArgumentException();
        }
    }

    private static int at(int[] row, int i) {
        return row != null && i >= 0 && i < row.length ? row[i] : 0;
    }

    private static void put(int[] row, int i, int value) {
        if (row != null && i >= 0 && i < row.length) {
            row[i] = value;
        }
    }

    private static void copyRow(int[] from, int[] to) {
        for (int i = 0; i < from.length && i < to.length; i++) {
            to[i] = from[i];
        }
    }

    /** Of 32, where no bit is set. */
    private static int lowestBit(int bits) {
        int i = 0;
        while (i < 32 && (bits & 1 << i) == 0) {
            i++;
        }
        return i;
    }

    /** A row of LETTERS (1: a): a WORD, or a BLEND. */
    private static final class Letters {
        private final int[] signs;
        private int size = 0;

        Letters(int most) {
            signs = new int[most > 0 ? most : 0];
        }

        void empty() {
            size = 0;
        }

        void addLetter(int letter) {
            if (size < signs.length) {
                put(signs, size, letter);
                size++;
            }
        }

        int length() {
            return size;
        }

        int signAt(int i) {
            return at(signs, i);
        }

        int last() {
            return at(signs, size - 1);
        }

        boolean isSame(Letters other) {
            return size == other.size && matches(0, other, size);
        }

        boolean holds(Letters part) {
            for (int from = 0; from + part.size <= size; from++) {
                if (matches(from, part, part.size)) {
                    return true;
                }
            }
            return false;
        }

        /** Whether the first so many of the other one stand here from there on. */
        private boolean matches(int from, Letters other, int many) {
            for (int i = 0; i < many; i++) {
                if (at(signs, from + i) != at(other.signs, i)) {
                    return false;
                }
            }
            return true;
        }

        int overlapWith(Letters next) {
            int many = Math.min(size, next.size) - 1;
            while (many > 0 && !matches(size - many, next, many)) {
                many--;
            }
            return Math.max(many, 0);
        }

        boolean isAnagram(Letters other) {
            for (int letter = 1; letter <= 26; letter++) {
                if (howOften(letter) != other.howOften(letter)) {
                    return false;
                }
            }
            return true;
        }

        private int howOften(int letter) {
            int often = 0;
            for (int i = 0; i < size; i++) {
                often += at(signs, i) == letter ? 1 : 0;
            }
            return often;
        }
    }

    /** CHANGES and COMMON, by one line of the usual table that is written over. */
    private static final class Measure {
        private final int[] line = new int[2 * MOST_LETTERS + 1];

        int changes(Letters from, Letters to) {
            for (int k = 0; k <= to.length(); k++) {
                put(line, k, k);
            }
            for (int i = 0; i < from.length(); i++) {
                int slant = at(line, 0);
                put(line, 0, i + 1);
                for (int k = 0; k < to.length(); k++) {
                    int above = at(line, k + 1);
                    int other = slant + (from.signAt(i) == to.signAt(k) ? 0 : 1);
                    put(line, k + 1, Math.min(other, Math.min(above, at(line, k)) + 1));
                    slant = above;
                }
            }
            return at(line, to.length());
        }

        int common(Letters one, Letters other) {
            for (int k = 0; k <= other.length(); k++) {
                put(line, k, 0);
            }
            for (int i = 0; i < one.length(); i++) {
                int slant = 0;
                for (int k = 0; k < other.length(); k++) {
                    int above = at(line, k + 1);
                    boolean like = one.signAt(i) == other.signAt(k);
                    put(line, k + 1, like ? slant + 1 : Math.max(above, at(line, k)));
                    slant = above;
                }
            }
            return at(line, other.length());
        }
    }

    /** COUPLES, by the fewest CHANGES within each set of TRUNKS (bits). */
    private static final class Pairing {
        private final int[] costs = new int[MOST_TRUNKS * MOST_TRUNKS];
        private final int[] fewest = new int[1 << MOST_TRUNKS];
        private final int[] partners = new int[MOST_TRUNKS];
        private int total = 0;

        void setCost(int one, int other, int cost) {
            put(costs, one * MOST_TRUNKS + other, cost);
        }

        int total() {
            return total;
        }

        int partnerOf(int trunk) {
            return at(partners, trunk);
        }

        void find(int many) {
            int all = (1 << many) - 1;
            put(fewest, 0, 0);
            for (int set = 1; set <= all; set++) {
                put(fewest, set, fewestOf(set, many));
            }
            total = at(fewest, all);
            choosePartners(all, many);
        }

        private int fewestOf(int set, int many) {
            int one = lowestBit(set);
            int rest = set & ~(1 << one);
            // Only of an odd set one stays alone: else there were fewer couples.
            int best = Integer.bitCount(set) % 2 == 1 ? at(fewest, rest) : Integer.MAX_VALUE;
            for (int other = one + 1; other < many; other++) {
                if ((rest & 1 << other) != 0) {
                    best = Math.min(best, withCouple(one, other, rest));
                }
            }
            return best;
        }

        private int withCouple(int one, int other, int rest) {
            return at(costs, one * MOST_TRUNKS + other) + at(fewest, rest & ~(1 << other));
        }

        private void choosePartners(int all, int many) {
            int set = all;
            for (int one = 0; one < many; one++) {
                if ((set & 1 << one) == 0) {
                    continue;
                }
                int rest = set & ~(1 << one);
                int other = one + 1;
                while (other < many && !((rest & 1 << other) != 0 && withCouple(one, other, rest) == at(fewest, set))) {
                    other++;
                }
                put(partners, one, other < many ? other : NONE);
                if (other < many) {
                    put(partners, other, one);
                    rest &= ~(1 << other);
                }
                set = rest;
            }
        }
    }

    /** The WORDS, and how they stand to each other. */
    private static final class Words {
        private final Letters[] rows = new Letters[MOST_WORDS];
        private final Letters nothing = new Letters(0);
        private final int[] firm = new int[MOST_WORDS];
        private int count = 0;
        private final int[] overlaps = new int[MOST_WORDS * MOST_WORDS];
        private final int[] follows = new int[MOST_WORDS * MOST_WORDS];
        private final int[] rowOrder = new int[MOST_WORDS];
        private final int[] chainOrder = new int[MOST_WORDS];
        private int rowLetters = 0;
        private int chainSize = 0;

        Words() {
            for (int w = 0; w < rows.length; w++) {
                rows[w] = new Letters(MOST_LETTERS);
            }
        }

        void startAnew() {
            count = 0;
        }

        int many() {
            return count;
        }

        /** The Letters of a WORD; of the one behind the last one while its LETTERS are told. */
        Letters of(int word) {
            if (word < 0 || word >= rows.length || rows[word] == null) {
                return nothing;
            }
            return rows[word];
        }

        boolean hasAlready(Letters letters) {
            for (int w = 0; w < count; w++) {
                if (of(w).isSame(letters)) {
                    return true;
                }
            }
            return false;
        }

        void takeNext(int firmness) {
            if (count < MOST_WORDS) {
                put(firm, count, firmness);
                count++;
            }
        }

        int firmness(int word) {
            return at(firm, word);
        }

        int overlapOf(int word, int next) {
            return at(overlaps, word * MOST_WORDS + next);
        }

        int rowLetters() {
            return rowLetters;
        }

        int inRow(int i) {
            return at(rowOrder, i);
        }

        int chainSize() {
            return chainSize;
        }

        int inChain(int i) {
            return at(chainOrder, i);
        }

        int within(int word) {
            int bits = 0;
            for (int w = 0; w < count; w++) {
                bits |= of(w).holds(of(word)) ? 1 << w : 0;
            }
            return bits;
        }

        int anagrams(int word) {
            int bits = 0;
            for (int w = 0; w < count; w++) {
                bits |= of(w).isAnagram(of(word)) ? 1 << w : 0;
            }
            return bits;
        }

        /** What hangs on the WORDS alone is found once, when all are told. */
        void settle(int[] room) {
            for (int one = 0; one < count; one++) {
                for (int next = 0; next < count; next++) {
                    put(overlaps, one * MOST_WORDS + next, of(one).overlapWith(of(next)));
                    put(follows, one * MOST_WORDS + next, of(one).last() == of(next).signAt(0) ? 1 : NONE);
                }
            }
            findOrder(overlaps, rowOrder, room);
            chainSize = findOrder(follows, chainOrder, room);
            rowLetters = 0;
            for (int i = 0; i < count; i++) {
                rowLetters += of(inRow(i)).length() - (i == 0 ? 0 : overlapOf(inRow(i - 1), inRow(i)));
            }
        }

        /**
         * The first row of WORDS whose links (NONE: not side by side) are worth most; how many they are.
         * It goes on as long as it may be without being worth less, so a row over links of 0 takes all.
         */
        private int findOrder(int[] links, int[] order, int[] room) {
            fillRoom(links, room);
            int rest = 0;
            for (int w = 0; w < count; w++) {
                rest = Math.max(rest, at(room, (1 << w) * MOST_WORDS + w));
            }
            int used = 0;
            int last = NONE;
            int size = 0;
            while (size < count) {
                int next = firstNext(links, room, used, last, rest);
                if (next == NONE) {
                    return size;
                }
                used |= 1 << next;
                last = next;
                rest = at(room, used * MOST_WORDS + last);
                put(order, size, next);
                size++;
            }
            return size;
        }

        /** The room holds how much is still to be had behind a last WORD, when a set (bits) is used. */
        private void fillRoom(int[] links, int[] room) {
            for (int used = (1 << count) - 1; used > 0; used--) {
                for (int last = 0; last < count; last++) {
                    int most = 0;
                    for (int next = 0; next < count; next++) {
                        int link = at(links, last * MOST_WORDS + next);
                        if ((used & 1 << next) == 0 && link >= 0) {
                            most = Math.max(most, link + at(room, (used | 1 << next) * MOST_WORDS + next));
                        }
                    }
                    put(room, used * MOST_WORDS + last, most);
                }
            }
        }

        private int firstNext(int[] links, int[] room, int used, int last, int rest) {
            for (int next = 0; next < count; next++) {
                int link = last == NONE ? 0 : at(links, last * MOST_WORDS + next);
                boolean can = (used & 1 << next) == 0 && link >= 0;
                if (can && link + at(room, (used | 1 << next) * MOST_WORDS + next) == rest) {
                    return next;
                }
            }
            return NONE;
        }
    }

    /** A trunk, or a treaty. */
    private static final class Trunk {
        private int said = 0;
        private int meant = 0;
        private int strap = 0;
        private int grown = 0;
        private boolean treaty = false;

        void becomeAs(Trunk other) {
            said = other.said;
            meant = other.meant;
            strap = other.strap;
            grown = other.grown;
            treaty = other.treaty;
        }

        void turnRound() {
            int before = said;
            said = meant;
            meant = before;
            grown = 0;
        }

        void packIn(int half, int word) {
            if (half == 0) {
                said = word;
            } else {
                meant = word;
            }
            grown = 0;
        }
    }

    /** All that DAYS and ACTS change. */
    private static final class Trunks {
        private static final int NUMBERS = 1 + 4 * MOST_TRUNKS;

        private final Trunk[] all = new Trunk[MOST_TRUNKS];
        private final Trunk nobody = new Trunk();
        private int count = 0;
        private int day = 0;

        Trunks() {
            for (int t = 0; t < all.length; t++) {
                all[t] = new Trunk();
            }
        }

        Trunk get(int trunk) {
            if (trunk < 0 || trunk >= all.length || all[trunk] == null) {
                return nobody;
            }
            return all[trunk];
        }

        void addTrunk(int said, int meant, int strap, boolean treaty) {
            if (count < MOST_TRUNKS) {
                Trunk one = get(count);
                one.said = said;
                one.meant = meant;
                one.strap = strap;
                one.grown = 0;
                one.treaty = treaty;
                count++;
            }
        }

        void copyAll(Trunks other) {
            count = other.count;
            day = other.day;
            for (int t = 0; t < count; t++) {
                get(t).becomeAs(other.get(t));
            }
        }

        void saveIn(int[] numbers, int from) {
            put(numbers, from, day);
            for (int t = 0; t < count; t++) {
                Trunk one = get(t);
                int place = from + 1 + 4 * t;
                put(numbers, place, one.said);
                put(numbers, place + 1, one.meant);
                put(numbers, place + 2, one.strap);
                put(numbers, place + 3, one.grown);
            }
        }

        void takeFrom(int[] numbers, int from) {
            day = at(numbers, from);
            for (int t = 0; t < count; t++) {
                Trunk one = get(t);
                int place = from + 1 + 4 * t;
                one.said = at(numbers, place);
                one.meant = at(numbers, place + 1);
                one.strap = at(numbers, place + 2);
                one.grown = at(numbers, place + 3);
            }
        }
    }

    /** All that an IMAGE keeps: the TRUNKS, the ACTS, what is SEEN, STATUS. */
    private static final class Story {
        private final Trunks now = new Trunks();
        // Of each ACT how all was ahead of it; the oldest one's place is taken by a 41st.
        private final int[] acts = new int[MOST_ACTS * Trunks.NUMBERS];
        private int oldestAct = 0;
        private int actsKept = 0;
        private final int[] seenTrunks = new int[MOST_SEEN];
        private final int[] seenDays = new int[MOST_SEEN];
        private final int[] seenLetters = new int[MOST_SEEN];
        private int seenSize = 0;
        private final int[] refused = new int[3];

        void takeOver(Story other) {
            now.copyAll(other.now);
            copyRow(other.acts, acts);
            oldestAct = other.oldestAct;
            actsKept = other.actsKept;
            copyRow(other.seenTrunks, seenTrunks);
            copyRow(other.seenDays, seenDays);
            copyRow(other.seenLetters, seenLetters);
            seenSize = other.seenSize;
            copyRow(other.refused, refused);
        }

        void beginWith(Trunks told) {
            now.copyAll(told);
            oldestAct = 0;
            actsKept = 0;
            seenSize = 0;
        }

        /** Always NONE, which is what a call that is refused answers. */
        int refuse(int what) {
            put(refused, what, at(refused, what) + 1);
            return NONE;
        }

        int refusals(int what) {
            return at(refused, what);
        }

        int actsKept() {
            return actsKept;
        }

        void keepAct() {
            now.saveIn(acts, (oldestAct + actsKept) % MOST_ACTS * Trunks.NUMBERS);
            if (actsKept < MOST_ACTS) {
                actsKept++;
            } else {
                oldestAct = (oldestAct + 1) % MOST_ACTS;
            }
        }

        void undoAct() {
            if (actsKept > 0) {
                actsKept--;
                now.takeFrom(acts, (oldestAct + actsKept) % MOST_ACTS * Trunks.NUMBERS);
            }
        }

        int seenSize() {
            return seenSize;
        }

        void addSeen(int trunk, int days, int letters) {
            if (seenSize < MOST_SEEN) {
                put(seenTrunks, seenSize, trunk);
                put(seenDays, seenSize, days);
                put(seenLetters, seenSize, letters);
                seenSize++;
            }
        }

        void forgetSeen() {
            seenSize = 0;
        }

        /** The last DAY for which something of the TRUNK is SEEN; NONE without. */
        int lastSeenDay(int trunk) {
            int last = NONE;
            for (int i = 0; i < seenSize; i++) {
                if (at(seenTrunks, i) == trunk) {
                    last = Math.max(last, at(seenDays, i));
                }
            }
            return last;
        }

        boolean agrees(int trunk, int day, int letters) {
            for (int i = 0; i < seenSize; i++) {
                boolean meant = at(seenTrunks, i) == trunk && at(seenDays, i) == day;
                if (meant && at(seenLetters, i) != letters) {
                    return false;
                }
            }
            return true;
        }
    }

    /** What a TEXT tells, and what follows from it for TRUNKS. */
    private static final class Load {
        private final Words words = new Words();
        private final Trunks told = new Trunks();
        private final int[] heats = new int[MOST_HEATS];
        private int heatCount = 0;
        private final Rule rule = new Rule();

        void forgetAll() {
            words.startAnew();
            told.count = 0;
            heatCount = 0;
            rule.clear();
        }

        void addHeat(int heat) {
            if (heatCount < MOST_HEATS) {
                put(heats, heatCount, heat);
                heatCount++;
            }
        }

        int heatOf(int day) {
            return heatCount > 0 ? at(heats, day % heatCount) : HEAT_UNTOLD;
        }

        int fullOf(Trunk trunk) {
            return Math.min(words.of(trunk.said).length(), words.of(trunk.meant).length());
        }

        boolean isFull(Trunk trunk) {
            return trunk.grown == fullOf(trunk);
        }

        int blendSize(Trunk trunk) {
            return words.of(trunk.said).length() + words.of(trunk.meant).length() - trunk.grown;
        }

        void blendInto(Trunk trunk, Letters blend) {
            Letters said = words.of(trunk.said);
            Letters meant = words.of(trunk.meant);
            int kept = said.length() - (trunk.grown + 1) / 2;
            blend.empty();
            for (int i = 0; i < kept; i++) {
                blend.addLetter(said.signAt(i));
            }
            for (int i = trunk.grown / 2; i < meant.length(); i++) {
                blend.addLetter(meant.signAt(i));
            }
        }

        int howManyFull(Trunks trunks) {
            int many = 0;
            for (int t = 0; t < trunks.count; t++) {
                many += isFull(trunks.get(t)) ? 1 : 0;
            }
            return many;
        }

        int lettersOfAll(Trunks trunks) {
            int many = 0;
            for (int t = 0; t < trunks.count; t++) {
                many += blendSize(trunks.get(t));
            }
            return many;
        }

        void passDay(Trunks trunks) {
            int heat = heatOf(trunks.day);
            for (int t = 0; t < trunks.count; t++) {
                grow(trunks.get(t), trunks.day, heat);
            }
            trunks.day++;
        }

        void grow(Trunk trunk, int day, int heat) {
            int more = heat > trunk.strap ? 1 : 0;
            if (rule.isTold()) {
                rule.setTrunk(trunk, day, heat);
                rule.setWords(words.firmness(trunk.said), words.firmness(trunk.meant),
                        words.overlapOf(trunk.said, trunk.meant));
                more = Math.max(0, Math.min(3, rule.worth()));
            }
            int grown = trunk.grown + (trunk.treaty ? 2 * more : more);
            trunk.grown = Math.min(fullOf(trunk), grown);
        }
    }

    /** An EXPR, its parts ahead of their signs: 0 and more is a NUMBER, below it a VALUE, or a sign. */
    private static final class Rule {
        private static final int STRAP = -1;
        private static final int HEAT = -2;
        private static final int GROWN = -3;
        private static final int SAID = -4;
        private static final int MEANT = -5;
        private static final int OVERLAP = -6;
        private static final int DAY = -7;
        private static final int OR = -11;
        private static final int AND = -12;
        private static final int NOT = -13;
        private static final int LESS = -14;
        private static final int EQUAL = -15;
        private static final int PLUS = -16;
        private static final int MINUS = -17;
        private static final int TIMES = -18;
        private static final int OVER = -19;

        private final int[] steps = new int[MOST_BYTES];
        private int size = 0;
        private final int[] values = new int[7];
        // At most 5 parts wait for their signs within each of 6 EXPRs, one in the other.
        private final int[] waiting = new int[40];

        void clear() {
            size = 0;
        }

        boolean isTold() {
            return size > 0;
        }

        void addStep(int step) {
            if (size < MOST_BYTES) {
                put(steps, size, step);
                size++;
            }
        }

        // The place of a VALUE's number is told by its step, from the end.
        void setTrunk(Trunk trunk, int day, int heat) {
            put(values, -1 - STRAP, trunk.strap);
            put(values, -1 - GROWN, trunk.grown);
            put(values, -1 - DAY, day);
            put(values, -1 - HEAT, heat);
        }

        void setWords(int said, int meant, int overlap) {
            put(values, -1 - SAID, said);
            put(values, -1 - MEANT, meant);
            put(values, -1 - OVERLAP, overlap);
        }

        int worth() {
            int top = NONE;
            for (int i = 0; i < size; i++) {
                int step = at(steps, i);
                if (step >= DAY) {
                    top++;
                    put(waiting, top, step >= 0 ? step : at(values, -1 - step));
                } else if (step == NOT) {
                    put(waiting, top, at(waiting, top) == 0 ? 1 : 0);
                } else {
                    top--;
                    put(waiting, top, joined(step, at(waiting, top), at(waiting, top + 1)));
                }
            }
            return at(waiting, 0);
        }

        private static int joined(int sign, int left, int right) {
            switch (sign) {
                case OR:
                    return left != 0 || right != 0 ? 1 : 0;
                case AND:
                    return left != 0 && right != 0 ? 1 : 0;
                case LESS:
                    return left < right ? 1 : 0;
                case EQUAL:
                    return left == right ? 1 : 0;
                case PLUS:
                    return left + right;
                case MINUS:
                    return left - right;
                case TIMES:
                    return left * right;
                default:
                    return right == 0 ? 0 : left / right;
            }
        }
    }

    /** The tape, and the TOKENS of the TEXT that is its beginning, one at a time. */
    private static final class Text {
        private static final int END = 0;
        private static final int WORD = 1;
        private static final int NUMBER = 2;
        private static final int NO_TOKEN = 3;

        private final byte[] bytes = new byte[MOST_BYTES];
        private int tapeSize = 0;
        private int length = 0;
        private int next = 0;
        // What it is; of a sign its byte.
        private int kind = END;
        private int start = 0;
        private int number = 0;

        /** Four bytes, the highest first. */
        void takeBytes(int number) {
            for (int shift = 24; shift >= 0; shift -= 8) {
                if (tapeSize >= 0 && tapeSize < bytes.length) {
                    bytes[tapeSize] = (byte) (number >> shift);
                    tapeSize++;
                }
            }
        }

        /** The bytes stay where they are until they are read, but on the tape they are no more. */
        void open(int many) {
            tapeSize = 0;
            length = many;
            next = 0;
            step();
        }

        void step() {
            while (next < length && (byteAt(next) == ' ' || byteAt(next) == '\n')) {
                next++;
            }
            start = next;
            number = 0;
            if (next >= length) {
                kind = END;
            } else if (isLetter(byteAt(next))) {
                stepWord();
            } else if (isDigit(byteAt(next))) {
                stepNumber();
            } else {
                int sign = byteAt(next);
                kind = isSign(sign) ? sign : NO_TOKEN;
                next++;
            }
        }

        private void stepWord() {
            kind = WORD;
            while (next < length && isLetter(byteAt(next))) {
                next++;
            }
        }

        private void stepNumber() {
            kind = NUMBER;
            while (next < length && isDigit(byteAt(next))) {
                // Of more digits nobody asks the number.
                number = next - start < MOST_DIGITS ? 10 * number + byteAt(next) - '0' : number;
                next++;
            }
        }

        private int byteAt(int i) {
            return i >= 0 && i < bytes.length ? bytes[i] & 255 : 0;
        }

        private static boolean isLetter(int sign) {
            return sign >= 'a' && sign <= 'z';
        }

        private static boolean isDigit(int sign) {
            return sign >= '0' && sign <= '9';
        }

        private static boolean isSign(int sign) {
            boolean mark = sign == ';' || sign == '(' || sign == ')' || sign == '<' || sign == '=';
            return mark || sign == '+' || sign == '-' || sign == '*' || sign == '/';
        }

        int kind() {
            return kind;
        }

        int start() {
            return start;
        }

        int tokenSize() {
            return next - start;
        }

        int number() {
            return number;
        }

        boolean spells(String word) {
            if (kind != WORD || tokenSize() != word.length()) {
                return false;
            }
            for (int i = 0; i < word.length(); i++) {
                if (byteAt(start + i) != word.charAt(i)) {
                    return false;
                }
            }
            return true;
        }

        void spellInto(Letters letters) {
            letters.empty();
            for (int i = start; i < next; i++) {
                letters.addLetter(byteAt(i) - 'a' + 1);
            }
        }
    }

    /** Reads BAGGAGE; what reads a part answers whether it is without a FAULT. */
    private static final class Reader {
        private static final int MOST_WITHIN = 6;
        private static final int MOST_NOTS = 6;
        private static final int OPEN = -20;
        private static final int RANK_AND = 2;
        private static final int RANK_TEST = 4;

        private final Text text = new Text();
        private int fault = 0;
        private int place = NONE;
        // Signs whose right part isn't whole: of each of 6 EXPRs at most a parenthesis, 6 nots, 5 others.
        private final int[] open = new int[84];
        private int openCount = 0;
        private int within = 0;
        private int nots = 0;
        private boolean partDue = false;
        private boolean notCan = false;

        int place() {
            return place;
        }

        /** The FAULT, or 0. */
        int faultKind() {
            return fault;
        }

        void begin(int length) {
            fault = 0;
            place = NONE;
            text.open(length);
        }

        /** Whether there is a LINE more, and no FAULT ahead of it. */
        boolean goesOn() {
            return fault == 0 && text.kind() != Text.END;
        }

        private boolean blame(int what) {
            fault = what;
            place = text.start();
            return false;
        }

        void readLine(Load load) {
            boolean fine;
            if (text.spells("word")) {
                fine = readWord(load.words);
            } else if (text.spells("trunk") || text.spells("treaty")) {
                fine = readTrunk(load, text.spells("treaty"));
            } else if (text.spells("heat")) {
                fine = readHeat(load);
            } else if (text.spells("grows")) {
                fine = readGrows(load.rule);
            } else {
                fine = blame(1);
            }
            if (fine && text.kind() != ';') {
                blame(1);
            } else if (fine) {
                text.step();
            }
        }

        private boolean readWord(Words words) {
            if (words.many() >= MOST_WORDS) {
                return blame(2);
            }
            text.step();
            if (text.kind() != Text.WORD) {
                return blame(1);
            }
            if (text.tokenSize() > MOST_LETTERS) {
                return blame(2);
            }
            Letters letters = words.of(words.many());
            text.spellInto(letters);
            if (words.hasAlready(letters)) {
                return blame(4);
            }
            text.step();
            int firm = readNumber(GREATEST_DIGIT, 2);
            if (firm != NONE) {
                words.takeNext(firm);
            }
            return firm != NONE;
        }

        /** NONE at a FAULT, of a NUMBER above the most the one that is told. */
        private int readNumber(int most, int faultAbove) {
            boolean fine = true;
            if (text.kind() != Text.NUMBER) {
                fine = blame(1);
            } else if (text.tokenSize() > MOST_DIGITS) {
                fine = blame(2);
            } else if (text.number() > most) {
                fine = blame(faultAbove);
            }
            int number = text.number();
            if (fine) {
                text.step();
            }
            return fine ? number : NONE;
        }

        private boolean readTrunk(Load load, boolean treaty) {
            if (load.told.count >= MOST_TRUNKS) {
                return blame(2);
            }
            text.step();
            int lastWord = load.words.many() - 1;
            int said = readNumber(lastWord, 3);
            int meant = said == NONE ? NONE : readNumber(lastWord, 3);
            int strap = meant == NONE ? NONE : readNumber(GREATEST_DIGIT, 2);
            if (strap != NONE) {
                load.told.addTrunk(said, meant, strap, treaty);
            }
            return strap != NONE;
        }

        private boolean readHeat(Load load) {
            if (load.heatCount > 0) {
                return blame(5);
            }
            text.step();
            for (int k = 0; k < MOST_HEATS; k++) {
                if (k > 0 && text.kind() != Text.NUMBER) {
                    return true;
                }
                int heat = readNumber(GREATEST_DIGIT, 2);
                if (heat == NONE) {
                    return false;
                }
                load.addHeat(heat);
            }
            return text.kind() != Text.NUMBER || blame(2);
        }

        private boolean readGrows(Rule rule) {
            if (rule.isTold()) {
                return blame(5);
            }
            text.step();
            openCount = 0;
            within = 0;
            partDue = true;
            notsAnew(true);
            boolean fine = true;
            for (int k = 0; k <= MOST_BYTES && fine && !exprEnds(); k++) {
                fine = partDue ? readPart(rule) : readSign(rule);
            }
            closeSigns(rule, 1);
            return fine;
        }

        private boolean exprEnds() {
            return !partDue && within == 0 && text.kind() == ';';
        }

        /** Where a PART must stand, a 'not' perhaps: each word can, be it a VALUE or not. */
        private boolean readPart(Rule rule) {
            int kind = text.kind();
            if (kind != Text.NUMBER && kind != Text.WORD && kind != '(') {
                return blame(1);
            }
            // No EXPR gets beyond its first token here.
            if (within >= MOST_WITHIN) {
                return blame(2);
            }
            if (kind == '(') {
                openSign(OPEN);
                within++;
                notsAnew(true);
            } else if (notCan && text.spells("not")) {
                if (nots >= MOST_NOTS) {
                    return blame(2);
                }
                nots++;
                openSign(Rule.NOT);
            } else {
                int value = kind == Text.NUMBER ? text.number() : valueOfWord();
                if (kind == Text.NUMBER && text.tokenSize() > MOST_DIGITS) {
                    return blame(2);
                }
                if (kind == Text.WORD && value == 0) {
                    return blame(3);
                }
                rule.addStep(value);
                partDue = false;
            }
            text.step();
            return true;
        }

        private void notsAnew(boolean can) {
            notCan = can;
            nots = 0;
        }

        /** Where a PART has ended. */
        private boolean readSign(Rule rule) {
            if (text.kind() == ')' && within > 0) {
                closeSigns(rule, 1);
                // The parenthesis itself is left.
                openCount--;
                within--;
                text.step();
                return true;
            }
            int sign = signOfToken();
            int rank = rankOf(sign);
            if (rank == 0) {
                return blame(1);
            }
            // A test ahead of a test stays open, and is found below: none can follow it.
            closeSigns(rule, rank == RANK_TEST ? rank + 1 : rank);
            if (rank == RANK_TEST && rankOf(lastOpen()) == RANK_TEST) {
                return blame(1);
            }
            openSign(sign);
            partDue = true;
            notsAnew(rank <= RANK_AND);
            text.step();
            return true;
        }

        private void openSign(int sign) {
            put(open, openCount, sign);
            openCount++;
        }

        private int lastOpen() {
            return at(open, openCount - 1);
        }

        /** Signs that bind no less go into the rule, as far as a parenthesis (whose rank is 0). */
        private void closeSigns(Rule rule, int rank) {
            while (openCount > 0 && rankOf(lastOpen()) >= rank) {
                rule.addStep(lastOpen());
                openCount--;
            }
        }

        private int valueOfWord() {
            return text.spells("strap") ? Rule.STRAP
                    : text.spells("heat") ? Rule.HEAT
                    : text.spells("grown") ? Rule.GROWN
                    : text.spells("said") ? Rule.SAID
                    : text.spells("meant") ? Rule.MEANT
                    : text.spells("overlap") ? Rule.OVERLAP
                    : text.spells("day") ? Rule.DAY : 0;
        }

        private int signOfToken() {
            switch (text.kind()) {
                case '<':
                    return Rule.LESS;
                case '=':
                    return Rule.EQUAL;
                case '+':
                    return Rule.PLUS;
                case '-':
                    return Rule.MINUS;
                case '*':
                    return Rule.TIMES;
                case '/':
                    return Rule.OVER;
                default:
                    return text.spells("or") ? Rule.OR : text.spells("and") ? Rule.AND : 0;
            }
        }

        /** How tight a sign binds; 0 where it is none. */
        private static int rankOf(int sign) {
            switch (sign) {
                case Rule.OR:
                    return 1;
                case Rule.AND:
                    return RANK_AND;
                case Rule.NOT:
                    return 3;
                case Rule.LESS:
                case Rule.EQUAL:
                    return RANK_TEST;
                case Rule.PLUS:
                case Rule.MINUS:
                    return 5;
                case Rule.TIMES:
                case Rule.OVER:
                    return 6;
                default:
                    return 0;
            }
        }
    }
}
