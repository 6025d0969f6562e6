import java.io.IOException;
import java.nio.charset.StandardCharsets;
import java.nio.file.Files;
import java.nio.file.Path;

/**
 * What the tests of the document's boundaries share: each test says which sentence of the document
 * it is for (and the document must say it so), and a refused call is followed by a look at
 * everything that it could have changed, the history too.
 */
abstract class Edges {
    static final int INVALID = -1000001;
    static final int IMPOSSIBLE = -1000002;
    static final int LIMIT = -1000003;
    static final int MISSING = -1000004;
    static final int LEAST = Integer.MIN_VALUE;
    static final int MOST = Integer.MAX_VALUE;

    private static final Path DOCUMENT = Path.of("..", "shared", "DOC.md");

    private static String[] parts;
    private static String sentence = "";
    private static int sentences;
    private static int checks;
    private static int wrong;

    /** Makes an object, the same one every time. */
    interface Made {
        Counted now();
    }

    interface Call {
        int on(Counted x);
    }

    interface CallWith {
        int on(Counted x, int argument);
    }

    /** The sentence that is tested from here on: of a promise, or of the terms if it is 0. */
    static void says(int promise, String words) {
        if (parts == null) {
            parts = readParts();
        }
        sentence = (promise == 0 ? "terms" : "promise " + promise) + ": " + words;
        sentences++;
        if (parts.length > promise && !parts[promise].contains(words)) {
            fail("the document does not say so");
        }
    }

    /** The terms, then each promise; nothing if there is no document to compare with. */
    private static String[] readParts() {
        if (Files.notExists(DOCUMENT)) {
            return new String[0];
        }
        try {
            String all = new String(Files.readAllBytes(DOCUMENT), StandardCharsets.UTF_8);
            return all.replaceAll("\\s+", " ").split("## Promise \\d+: ");
        } catch (IOException e) {
            throw new IllegalStateException(DOCUMENT + " can't be read", e);
        }
    }

    private static void fail(String what) {
        wrong++;
        System.out.println("\"" + sentence + "\": " + what);
    }

    static void due(String call, int got, int want) {
        checks++;
        if (got != want) {
            fail(call + " answered " + got + ", due is " + want);
        }
    }

    static void same(String what, String got, String want) {
        checks++;
        if (!got.equals(want)) {
            fail(what + ": not the same:\n  " + got + "\n  " + want);
        }
    }

    /** A call that returns an error, and so changes nothing. */
    static void refused(String call, Made made, Call asked, int want) {
        due(call, asked.on(made.now()), want);
        changesNothing(call, made, asked);
    }

    /** Neither the state nor the text nor a state of the history is another one behind the call. */
    static void changesNothing(String call, Made made, Call asked) {
        for (int undone = 0; undone <= 4; undone++) {
            Counted with = made.now();
            asked.on(with);
            Counted without = made.now();
            due("count(10) behind " + call, with.count(10), without.count(10));
            for (int i = 0; i < undone; i++) {
                due("undo() behind " + call, with.undo(), without.undo());
            }
            same(call + " and " + undone + " undo()", with.seen(), without.seen());
        }
        Counted with = made.now();
        asked.on(with);
        Counted without = made.now();
        due("play() behind " + call, with.play(), without.play());
        same(call + " and play()", with.seen(), without.seen());
    }

    /** A change: one state more is kept (of at most 4), and undo() restores all but the text. */
    static void change(String call, Made made, Call asked, int want) {
        Counted x = made.now();
        int states = x.count(10);
        String before = x.seen();
        Counted y = made.now();
        due(call, asked.on(y), want);
        due("count(10) behind " + call, y.count(10), Math.min(4, states + 1));
        due("undo() behind " + call, y.undo(), Math.min(3, states));
        same("undo() behind " + call, y.seen(), before);
    }

    /** A call refused for each of these arguments. */
    static void refusedFor(String call, Made made, CallWith asked, int want, int... arguments) {
        for (int argument : arguments) {
            refused(call + " with " + argument, made, x -> asked.on(x, argument), want);
        }
    }

    static void noSuchChip(String call, CallWith asked) {
        refusedFor(call, Edges::rich, asked, INVALID, -1, 6, 7, 8, LEAST, MOST);
        refusedFor(call + " without chips", Counted::new, asked, INVALID, 0, -1);
        refusedFor(call + " of 8 chips", () -> Counted.of(0, 1, 2, 0, 1, 2, 0, 1), asked, INVALID, -1, 8, 9);
    }

    static void noSuchWord(String call, CallWith asked) {
        refusedFor(call, Edges::rich, asked, INVALID, -1, 7, 8, 23, 24, LEAST, MOST);
        refusedFor(call + " without words", () -> Counted.of(0, 0), asked, INVALID, 0, -1);
        refusedFor(call + " of 24 words", Edges::allWords, asked, INVALID, -1, 24, 25);
    }

    /**
     * Something of all kinds, for calls that are refused: chip 0 is the godfather of family 0
     * (chips 0, 1, 2, 5), chips 3 and 4 are of family 1; 1 and 4 are dead. Words 0, 1, 2 wait in
     * rows 0, 1, 2 of family 0; chip 2 keeps word 3, chip 3 words 4 and 5; word 6 is lost.
     */
    static Counted rich() {
        Counted x = new Counted();
        x.adding(0, 1).adding(0, 0).adding(0, 1).adding(1, 0).adding(1, 2).adding(0, 0);
        x.electing(0).puts(1, 11, 22, 33).puts(2, 44).puts(3, 55, 66).puts(4, 77);
        x.killing(4).breaking(3, 5).ticking(3).killing(1);
        return x.text("t1;");
    }

    /** Family 0: the godfather 0, and the dead chip 1, whose words 0 and on wait; and more chips. */
    static Counted waiting(int words, int... moreFamilies) {
        Counted x = Counted.of(0, 0).electing(0);
        for (int family : moreFamilies) {
            x.adding(family, 0);
        }
        for (int word = 0; word < words; word++) {
            x.puts(1, 10 + word);
        }
        return x.killing(1);
    }

    /** 24 words on chips 0 to 3, chip 4 without words; none of them has a godfather. */
    static Counted allWords() {
        Counted x = Counted.of(0, 0, 1, 1, 2);
        for (int chip = 0; chip < 4; chip++) {
            x.puts(chip, 1, 2, 3, 4, 5, 6);
        }
        return x;
    }

    static void end() {
        System.out.println(sentences + " sentences, " + checks + " checks, " + wrong + " wrong");
        if (wrong != 0) {
            System.exit(1);
        }
    }
}
