import java.util.ArrayList;
import java.util.LinkedHashMap;
import java.util.List;
import java.util.Map;
import java.util.NoSuchElementException;

/** How the tests of single sentences are told and counted, and whether a call leaves all as it was. */
final class Check {
    interface Call {
        int answer();
    }

    interface Asked {
        int of(GrownWords x);
    }

    interface Made {
        void on(GrownWords x);
    }

    interface Told {
        Map<String, Integer> of(GrownWords x);
    }

    /** Answers of a call that throws NoSuchElementException, or IllegalArgumentException. */
    static final int NO_SUCH = -1001;
    static final int WRONG = -1002;
    static final int ELSE_THROWN = -1003;

    /** No STATUS is one more. */
    static final int NO_STATUS = -1;

    private static int sentences = 0;
    private static int broken = 0;
    private static int checks = 0;
    private static int brokenHere = 0;
    private static String here = "";

    private Check() {
    }

    /** One test: the document's words, and what must hold by them. */
    static void sentence(String words, Runnable test) {
        here = words;
        brokenHere = 0;
        int before = checks;
        try {
            test.run();
        } catch (RuntimeException e) {
            say("threw " + e);
        }
        if (checks == before) {
            say("checked nothing");
        }
        sentences++;
        broken += brokenHere > 0 ? 1 : 0;
    }

    static void end() {
        System.out.println(sentences + " sentences (" + checks + " checks), " + broken + " broken");
        if (broken > 0) {
            System.exit(1);
        }
    }

    private static void say(String what) {
        brokenHere++;
        System.out.println("\"" + here + "\": " + what);
    }

    static void due(int want, Call call) {
        checks++;
        int got = answer(call);
        if (got != want) {
            say("check " + checks + " answered " + got + ", due is " + want + " (line " + line() + ")");
        }
    }

    private static int line() {
        for (StackTraceElement e : new Throwable().getStackTrace()) {
            if (!e.getClassName().startsWith("Check")) {
                return e.getLineNumber();
            }
        }
        return 0;
    }

    static int answer(Call call) {
        try {
            return call.answer();
        } catch (NoSuchElementException e) {
            return e.getClass() == NoSuchElementException.class ? NO_SUCH : ELSE_THROWN;
        } catch (IllegalArgumentException e) {
            return e.getClass() == IllegalArgumentException.class ? WRONG : ELSE_THROWN;
        } catch (RuntimeException e) {
            return ELSE_THROWN;
        }
    }

    // ---- texts

    static int feedAll(GrownWords x, String text) {
        StringBuilder s = new StringBuilder(text);
        while (s.length() % 20 != 0) {
            s.append('#');
        }
        int size = x.count(9);
        for (int i = 0; i < s.length(); i += 20) {
            size = x.feed(four(s, i), four(s, i + 4), four(s, i + 8), four(s, i + 12), four(s, i + 16));
        }
        return size;
    }

    private static int four(CharSequence s, int i) {
        return s.charAt(i) << 24 | s.charAt(i + 1) << 16 | s.charAt(i + 2) << 8 | s.charAt(i + 3);
    }

    /** The tape must be empty. */
    static int tell(GrownWords x, String text) {
        feedAll(x, text);
        return x.baggage(text.length());
    }

    static GrownWords told(String text) {
        GrownWords x = new GrownWords();
        due(0, () -> tell(x, text));
        return x;
    }

    /** The FAULT at the place of the first @, which is no part of the text; 0: none. */
    static void faultAt(int kind, String marked) {
        int place = marked.indexOf('@');
        String text = place < 0 ? marked : marked.substring(0, place) + marked.substring(place + 1);
        faultOf(kind, place, text);
    }

    static void faultOf(int kind, int place, String text) {
        GrownWords x = new GrownWords();
        due(kind, () -> tell(x, text));
        due(place, () -> x.fault());
        due(kind == 0 ? 0 : 1, () -> x.count(10));
    }

    static String times(int n, String s) {
        return s.repeat(n);
    }

    // ---- objects that are made alike

    /** Four words, three trunks, acts, what is seen, an image, each STATUS, a FAULT at the place 40. */
    static void used(GrownWords x) {
        tell(x, "#");
        tell(x, "word smoke 3;word fog 5;word keg 1;word gof 2;"
            + "trunk 0 1 4;treaty 2 1 2;trunk 1 3 9;heat 6 3;grows heat / 6 or strap < heat;");
        x.days(1);
        x.see(0, 1, 7);
        x.draw(2, 1);
        x.pull(0, 9);
        x.image();
        x.days(1);
        x.turn(1);
        x.pack(2, 1, 0);
        x.days(21);
        x.see(1, 2, 5);
        x.see(1, 21, 5);
        x.days(1);
        tell(x, times(40, " ") + "?");
    }

    /** The same with 40 bytes on the tape. */
    static void rich(GrownWords x) {
        used(x);
        feedAll(x, "word tape 7;word ink 2;trunk 1 0 3;");
    }

    // ---- whether all is as it was

    /**
     * The call answers what is due, and leaves all as it was, but that STATUS (0 to 2) is one more. Of two objects that
     * are made alike one gets the call; then both must tell the same of all: at once, and as far as acts are undone, the
     * image is restored, the tape is read, days go by.
     */
    static void leaves(Made made, int want, int status, Asked call) {
        same(made, want, status, call, Check::everything);
        same(made, want, status, call, Check::undone);
        same(made, want, NO_STATUS, call, Check::restored);
        same(made, want, status, call, Check::tapeRead);
        same(made, want, status, call, Check::daysLater);
    }

    private static void same(Made made, int want, int status, Asked call, Told told) {
        GrownWords one = new GrownWords();
        GrownWords other = new GrownWords();
        made.on(one);
        made.on(other);
        due(want, () -> call.of(one));
        Map<String, Integer> now = told.of(one);
        Map<String, Integer> was = told.of(other);
        if (status != NO_STATUS) {
            was.computeIfPresent("count " + (10 + status), (name, number) -> number + 1);
        }
        sameNumbers(was, now);
    }

    private static void sameNumbers(Map<String, Integer> was, Map<String, Integer> now) {
        checks++;
        if (!was.keySet().equals(now.keySet())) {
            say("tells other things (line " + line() + ")");
        }
        for (String name : was.keySet()) {
            if (!was.get(name).equals(now.get(name))) {
                say(name + " is " + now.get(name) + ", due is " + was.get(name) + " (line " + line() + ")");
            }
        }
    }

    private static void put(Map<String, Integer> all, String name, Call call) {
        all.put(name, answer(call));
    }

    /** What can be told without a change, by some 200 calls. */
    static Map<String, Integer> everything(GrownWords x) {
        Map<String, Integer> all = new LinkedHashMap<>();
        int words = x.count(0);
        int trunks = x.count(1);
        for (int what = 0; what <= 12; what++) {
            int w = what;
            put(all, "count " + w, () -> x.count(w));
        }
        put(all, "fault", () -> x.fault());
        put(all, "couples", () -> x.couples());
        for (int word = 0; word < words; word++) {
            tellWord(all, x, word);
        }
        for (int trunk = 0; trunk < trunks; trunk++) {
            tellTrunk(all, x, trunk, words);
        }
        for (int what = 0; what <= 2; what++) {
            int w = what;
            put(all, "later " + w, () -> x.later(3, w));
            put(all, "loose " + w, () -> x.loose(w));
            put(all, "years " + w, () -> x.years(77, 9, w));
        }
        put(all, "look 0", () -> x.look(0));
        put(all, "look 1", () -> x.look(1));
        return all;
    }

    private static void tellWord(Map<String, Integer> all, GrownWords x, int word) {
        for (int what = 0; what <= 4; what++) {
            int w = what;
            put(all, "word " + word + " " + w, () -> x.word(word, w));
        }
        for (int i = 0; i < x.word(word, 0); i++) {
            int place = i;
            put(all, "letter " + word + " " + i, () -> x.letter(word, place));
        }
        put(all, "row " + word, () -> x.row(word));
        put(all, "chain " + word, () -> x.chain(word));
        put(all, "both " + word, () -> x.both(word, 0, 1));
    }

    private static void tellTrunk(Map<String, Integer> all, GrownWords x, int trunk, int words) {
        for (int what = 0; what <= 7; what++) {
            int w = what;
            put(all, "trunk " + trunk + " " + w, () -> x.trunk(trunk, w));
        }
        put(all, "then " + trunk, () -> x.then(trunk, 2, 0));
        put(all, "nearest " + trunk, () -> x.then(trunk, 2, 2));
        put(all, "blend " + trunk, () -> x.blend(trunk, 3, 1));
        put(all, "full " + trunk, () -> x.full(trunk));
        put(all, "toDraw " + trunk, () -> x.toDraw(trunk, 9));
        put(all, "seasons " + trunk, () -> x.seasons(trunk, 3, 4));
        put(all, "game " + trunk, () -> x.game(trunk, 0, 1));
        put(all, "alike " + trunk, () -> x.alike(trunk, 0));
        put(all, "read " + trunk, () -> x.read(trunk, words - 1));
    }

    private static void tellTrunks(Map<String, Integer> all, GrownWords x, String when) {
        put(all, when + " day", () -> x.count(2));
        for (int t = 0; t < x.count(1); t++) {
            for (int what = 0; what <= 3; what++) {
                int trunk = t;
                int w = what;
                put(all, when + " trunk " + t + " " + what, () -> x.trunk(trunk, w));
            }
        }
    }

    private static Map<String, Integer> undone(GrownWords x) {
        Map<String, Integer> all = new LinkedHashMap<>();
        for (int k = 0; k <= 40; k++) {
            int left = x.undo();
            all.put("undo " + k, left);
            if (left == GrownWords.NONE) {
                break;
            }
            // 40 times all numbers of each trunk would be too many calls.
            if (left < 8) {
                tellTrunks(all, x, "undone " + k);
            } else {
                put(all, "undone " + k, () -> x.count(2));
                put(all, "undone letters " + k, () -> x.count(6));
            }
        }
        put(all, "count 10", () -> x.count(10));
        put(all, "count 11", () -> x.count(11));
        put(all, "count 12", () -> x.count(12));
        return all;
    }

    private static Map<String, Integer> restored(GrownWords x) {
        int there = x.restore() ? 1 : 0;
        // Without an image STATUS is as it was found, which the other looks compare.
        Map<String, Integer> all = there == 1 ? everything(x) : new LinkedHashMap<>();
        all.put("restore", there);
        return all;
    }

    private static Map<String, Integer> tapeRead(GrownWords x) {
        Map<String, Integer> all = new LinkedHashMap<>();
        int size = x.count(9);
        put(all, "baggage", () -> x.baggage(size));
        put(all, "place", () -> x.fault());
        all.putAll(everything(x));
        return all;
    }

    private static Map<String, Integer> daysLater(GrownWords x) {
        Map<String, Integer> all = new LinkedHashMap<>();
        for (int k = 0; k < 3; k++) {
            put(all, "days " + k, () -> x.days(1));
            tellTrunks(all, x, "later " + k);
        }
        all.putAll(everything(x));
        return all;
    }

    /** Numbers far outside of all that is taken. */
    static List<Integer> far() {
        List<Integer> all = new ArrayList<>();
        for (int shift = 10; shift < 31; shift += 5) {
            all.add(1 << shift);
            all.add(-(1 << shift));
        }
        all.add(Integer.MAX_VALUE);
        all.add(Integer.MIN_VALUE);
        return all;
    }
}
