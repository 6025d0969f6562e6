import java.io.IOException;
import java.nio.charset.StandardCharsets;
import java.nio.file.Files;
import java.nio.file.Path;
import java.util.Arrays;

/**
 * What the tests of the document's boundaries share: each test says which sentence of the document
 * it is for (and the document must say it so), and a refused call is followed by a look at
 * everything that it could have changed, the history too.
 */
abstract class Edges {
    static final int INVALID = -1000001;
    static final int IMPOSSIBLE = -1000002;
    static final int LIMIT = -1000003;
    static final int MISSING = -1000004;
    static final int LEAST = Integer.MIN_VALUE;
    static final int MOST = Integer.MAX_VALUE;

    private static final Path DOCUMENT = Path.of("..", "shared", "DOC.md");

    private static String[] parts;
    /** Which characters of each part of the document stand in a sentence that is tested. */
    private static boolean[][] tested;
    private static String sentence = "";
    private static int sentences;
    private static int checks;
    private static int wrong;

    /** Makes an object, the same one every time. */
    interface Made {
        Counted now();
    }

    interface Call {
        int on(Counted x);
    }

    interface CallWith {
        int on(Counted x, int argument);
    }

    /** The sentence that is tested from here on: of a promise, or of the terms if it is 0. */
    static void says(int promise, String words) {
        sentence = (promise == 0 ? "terms" : "promise " + promise) + ": " + words;
        sentences++;
        testedBy(promise, words);
    }

    /** Counts words of the document as those that a test is for. */
    static void testedBy(int promise, String words) {
        if (parts == null) {
            readParts();
        }
        if (parts.length <= promise) {
            return;
        }
        int at = parts[promise].indexOf(words);
        if (at < 0) {
            fail("the document does not say so: " + words);
            return;
        }
        Arrays.fill(tested[promise], at, at + words.length(), true);
    }

    /**
     * The terms (and what stands ahead of them), each promise, and what is not promised, without
     * headings, code and the calls themselves; nothing if there is no document to compare with.
     */
    private static void readParts() {
        parts = new String[0];
        if (Files.exists(DOCUMENT)) {
            String all;
            try {
                all = new String(Files.readAllBytes(DOCUMENT), StandardCharsets.UTF_8);
            } catch (IOException e) {
                throw new IllegalStateException(DOCUMENT + " can't be read", e);
            }
            all = all.replaceAll("(?s)```.*?```", "").replaceAll("(?m)^`[\\w ]*\\([\\w ,]*\\)`:", "");
            parts = all.split("(?m)^## (Promise \\d+: .*|Not promised)$");
        }
        tested = new boolean[parts.length][];
        for (int part = 0; part < parts.length; part++) {
            parts[part] = parts[part].replaceAll("(?m)^#+ .*$", "").replaceAll("\\s+", " ");
            tested[part] = new boolean[parts[part].length()];
        }
    }

    /** Fails for each run of words of the document that stands in no sentence that is tested. */
    static void everySentence() {
        if (parts.length == 0) {
            System.out.println("there is no document to compare with");
        } else if (parts.length != 28) {
            fail("the document has " + parts.length + " parts; terms, 26 promises and what is not promised are 28");
        }
        for (int part = 0; part < parts.length; part++) {
            StringBuilder left = new StringBuilder();
            for (int at = 0; at < parts[part].length(); at++) {
                left.append(tested[part][at] ? '\n' : parts[part].charAt(at));
            }
            for (String words : left.toString().split("\n+")) {
                if (words.matches(".*\\w.*")) {
                    sentence = "part " + part;
                    fail("no test is for: " + words.trim());
                }
            }
        }
    }

    private static void fail(String what) {
        wrong++;
        System.out.println("\"" + sentence + "\": " + what);
    }

    static void due(String call, int got, int want) {
        checks++;
        if (got != want) {
            fail(call + " answered " + got + ", due is " + want);
        }
    }

    static void same(String what, String got, String want) {
        checks++;
        if (!got.equals(want)) {
            fail(what + ": not the same:\n  " + got + "\n  " + want);
        }
    }

    /** A call that returns an error, and so changes nothing. */
    static void refused(String call, Made made, Call asked, int want) {
        due(call, asked.on(made.now()), want);
        changesNothing(call, made, asked);
    }

    /** Neither the state nor the text nor a state of the history is another one behind the call. */
    static void changesNothing(String call, Made made, Call asked) {
        for (int undone = 0; undone <= 4; undone++) {
            Counted with = made.now();
            asked.on(with);
            Counted without = made.now();
            due("count(10) behind " + call, with.count(10), without.count(10));
            for (int i = 0; i < undone; i++) {
                due("undo() behind " + call, with.undo(), without.undo());
            }
            same(call + " and " + undone + " undo()", with.seen(), without.seen());
        }
        Counted with = made.now();
        asked.on(with);
        Counted without = made.now();
        due("play() behind " + call, with.play(), without.play());
        same(call + " and play()", with.seen(), without.seen());
    }

    /** A change: one state more is kept (of at most 4), and undo() restores all but the text. */
    static void change(String call, Made made, Call asked, int want) {
        Counted x = made.now();
        int states = x.count(10);
        String before = x.seen();
        Counted y = made.now();
        due(call, asked.on(y), want);
        due("count(10) behind " + call, y.count(10), Math.min(4, states + 1));
        due("undo() behind " + call, y.undo(), Math.min(3, states));
        same("undo() behind " + call, y.seen(), before);
    }

    /** A call refused for each of these arguments. */
    static void refusedFor(String call, Made made, CallWith asked, int want, int... arguments) {
        for (int argument : arguments) {
            refused(call + " with " + argument, made, x -> asked.on(x, argument), want);
        }
    }

    /** An argument that is the number of a chip: of each of eight, dead ones, too, but of no other one. */
    static void numberOfAChip(int promise, String words, CallWith asked) {
        says(promise, words);
        refusedFor(words, Edges::rich, asked, INVALID, -1, 6, 7, 8, LEAST, MOST);
        refusedFor(words + " without chips", Counted::new, asked, INVALID, 0, -1);
        for (int dying = -1; dying < 8; dying++) {
            int dead = dying;
            Made eight = () -> dead < 0 ? eightChips() : eightChips().killing(dead);
            refusedFor(words + " of 8 chips", eight, asked, INVALID, -1, 8, 9);
            for (int chip = 0; chip < 8; chip++) {
                int answer = asked.on(eight.now(), chip);
                due("a chip's number is in range", answer == INVALID ? INVALID : 0, 0);
            }
        }
    }

    /** Eight chips, of which the first one keeps six words. */
    private static Counted eightChips() {
        return Counted.of(0, 1, 2, 0, 1, 2, 0, 1).fill(0, 6);
    }

    /** An argument that is the number of a word: of each of 24, lost ones, too, but of no other one. */
    static void numberOfAWord(int promise, String words, CallWith asked) {
        says(promise, words);
        refusedFor(words, Edges::rich, asked, INVALID, -1, 7, 8, 23, 24, LEAST, MOST);
        refusedFor(words + " without words", () -> Counted.of(0, 0), asked, INVALID, 0, -1);
        refusedFor(words + " of 24 words", Edges::allWords, asked, INVALID, -1, 24, 25);
        for (int word = 0; word < 24; word++) {
            int answer = asked.on(allWords(), word);
            due("a word's number is in range", answer == INVALID ? INVALID : 0, 0);
            answer = asked.on(allWords().killing(0, 1, 2, 3), word);
            due("a lost word's number is in range", answer == INVALID ? INVALID : 0, 0);
        }
    }

    /**
     * Something of all kinds, for calls that are refused: chip 0 is the godfather of family 0
     * (chips 0, 1, 2, 5), chips 3 and 4 are of family 1; 1 and 4 are dead. Words 0, 1, 2 wait in
     * rows 0, 1, 2 of family 0; chip 2 keeps word 3, chip 3 words 4 and 5; word 6 is lost.
     */
    static Counted rich() {
        Counted x = new Counted();
        x.adding(0, 1).adding(0, 0).adding(0, 1).adding(1, 0).adding(1, 2).adding(0, 0);
        x.electing(0).puts(1, 11, 22, 33).puts(2, 44).puts(3, 55, 66).puts(4, 77);
        x.killing(4).breaking(3, 5).ticking(3).killing(1);
        return x.text("t1;");
    }

    /** Family 0: the godfather 0, and the dead chip 1, whose words 0 and on wait; and more chips. */
    static Counted waiting(int words, int... moreFamilies) {
        Counted x = Counted.of(0, 0).electing(0);
        for (int family : moreFamilies) {
            x.adding(family, 0);
        }
        for (int word = 0; word < words; word++) {
            x.puts(1, 10 + word);
        }
        return x.killing(1);
    }

    /** 24 words on chips 0 to 3, chip 4 without words; none of them has a godfather. */
    static Counted allWords() {
        Counted x = Counted.of(0, 0, 1, 1, 2);
        for (int chip = 0; chip < 4; chip++) {
            x.puts(chip, 1, 2, 3, 4, 5, 6);
        }
        return x;
    }

    static void end() {
        System.out.println(sentences + " sentences, " + checks + " checks, " + wrong + " wrong");
        if (wrong != 0) {
            System.exit(1);
        }
    }
}
