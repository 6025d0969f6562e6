/** Each promise of the document by itself: ordinary calls, its edges, and wrong arguments. */
public final class PromisesTest {
    private static final int INVALID = -1000001;
    private static final int IMPOSSIBLE = -1000002;
    private static final int LIMIT = -1000003;
    private static final int MISSING = -1000004;
    private static final int LEAST = Integer.MIN_VALUE;
    private static final int MOST = Integer.MAX_VALUE;

    private static int promise;
    private static int checks;
    private static int wrong;

    private static void due(String call, int got, int want) {
        checks++;
        if (got != want) {
            wrong++;
            System.out.println("promise " + promise + ": " + call + " answered " + got + ", due is " + want);
        }
    }

    /** Chips without spare rows, one of each family told. */
    private static GodChips chips(int... families) {
        GodChips x = new GodChips();
        for (int family : families) {
            x.chip(family, 0);
        }
        return x;
    }

    private static void puts(GodChips x, int chip, int... values) {
        for (int value : values) {
            if (x.put(chip, value) < 0) {
                throw new IllegalStateException("put(" + chip + ", " + value + ") is not possible");
            }
        }
    }

    private static void text(GodChips x, String text) {
        x.clearText();
        for (int i = 0; i < text.length(); i++) {
            x.type(text.charAt(i));
        }
    }

    private static void faultOf(GodChips x, String text, int place, int reason) {
        text(x, text);
        due("fault(0) of " + text, x.fault(0), place);
        due("fault(1) of " + text, x.fault(1), reason);
        due("play() of " + text, x.play(), IMPOSSIBLE);
    }

    /** A family 0 with a godfather 0, and chip 1 dead whose words 0, 1, 2 (rows 0, 1, 2) wait. */
    private static GodChips threeWait(int... moreFamilies) {
        GodChips x = chips(0, 0);
        for (int family : moreFamilies) {
            x.chip(family, 0);
        }
        x.elect(0);
        puts(x, 1, 11, 22, 33);
        x.kill(1);
        return x;
    }

    private static void promise1() {
        GodChips x = new GodChips();
        for (int what = 0; what <= 11; what++) {
            due("count(" + what + ")", x.count(what), 0);
        }
        for (int family = 0; family < 3; family++) {
            due("familyOf 0", x.familyOf(family, 0), MISSING);
            due("familyOf 6", x.familyOf(family, 6), MISSING);
            for (int what = 1; what <= 5; what++) {
                due("familyOf " + what, x.familyOf(family, what), 0);
            }
        }
        due("chipOf(0, 0)", x.chipOf(0, 0), INVALID);
        due("wordOf(0, 0)", x.wordOf(0, 0), INVALID);
        due("undo()", x.undo(), IMPOSSIBLE);
        due("fault(0)", x.fault(0), MISSING);
        // Objects share nothing.
        GodChips y = chips(0, 1);
        due("count(0) of another", x.count(0), 0);
        due("count(0)", y.count(0), 2);
        due("INVALID_ARGUMENT", GodChips.INVALID_ARGUMENT, INVALID);
        due("NOT_POSSIBLE", GodChips.NOT_POSSIBLE, IMPOSSIBLE);
        due("LIMIT_REACHED", GodChips.LIMIT_REACHED, LIMIT);
        due("NOT_FOUND", GodChips.NOT_FOUND, MISSING);
    }

    private static void promise2() {
        GodChips x = new GodChips();
        for (int bad : new int[] {-1, 3, LEAST, MOST}) {
            due("chip(" + bad + ", 0)", x.chip(bad, 0), INVALID);
            due("chip(0, " + bad + ")", x.chip(0, bad), INVALID);
        }
        for (int chip = 0; chip < 8; chip++) {
            due("chip", x.chip(chip % 3, chip % 3), chip);
            due("chipOf family", x.chipOf(chip, 0), chip % 3);
            due("chipOf lives", x.chipOf(chip, 1), 1);
            due("chipOf godfather", x.chipOf(chip, 2), 0);
            due("chipOf places", x.chipOf(chip, 4), 6);
            due("chipOf broken", x.chipOf(chip, 5), 0);
            due("chipOf spares", x.chipOf(chip, 6), chip % 3);
        }
        due("a ninth chip", x.chip(0, 0), LIMIT);
        due("a ninth chip of no family", x.chip(3, 0), INVALID);
        due("a ninth chip of three spares", x.chip(0, 3), INVALID);
        x.kill(7);
        due("a chip behind a death", x.chip(0, 0), LIMIT);
        due("count(0)", x.count(0), 8);
    }

    private static void promise3() {
        GodChips x = chips(0, 0, 1, 2, 2);
        for (int bad : new int[] {-1, 5, 8, LEAST, MOST}) {
            due("elect(" + bad + ")", x.elect(bad), INVALID);
        }
        due("elect(0)", x.elect(0), 6);
        due("chipOf(0, 2)", x.chipOf(0, 2), 1);
        due("chipOf(0, 4)", x.chipOf(0, 4), 0);
        due("familyOf(0, 0)", x.familyOf(0, 0), 0);
        due("elect(0) again", x.elect(0), IMPOSSIBLE);
        due("elect(1)", x.elect(1), IMPOSSIBLE);
        x.put(2, 5);
        due("elect of one with a word", x.elect(2), IMPOSSIBLE);
        x.breaks(3, 1);
        x.breaks(3, 5);
        due("elect of one with broken rows", x.elect(3), 4);
        due("familyOf(2, 4)", x.familyOf(2, 4), 63 - 2 - 32);
        x.kill(3);
        due("elect of a dead one", x.elect(3), IMPOSSIBLE);
        due("elect of the next", x.elect(4), 6);
        due("count(8)", x.count(8), 2);
        // Words of the family that are kept ahead of the election are in the sum.
        GodChips y = chips(1, 1, 1);
        puts(y, 0, 12);
        puts(y, 1, 10, 7);
        y.elect(2);
        due("rowOf(2, 0)", y.rowOf(2, 0), 12 ^ 10);
        due("rowOf(2, 1)", y.rowOf(2, 1), 7);
        due("rowOf(2, 2)", y.rowOf(2, 2), 0);
        // A word carried away leaves a chip that can be elected.
        GodChips z = chips(0, 1);
        puts(z, 0, 1);
        z.carry(0, 1);
        due("elect behind carry", z.elect(0), 6);
    }

    private static void promise4() {
        GodChips x = chips(0, 0, 0, 1);
        for (int bad : new int[] {-1, 4, LEAST, MOST}) {
            due("kill(" + bad + ")", x.kill(bad), INVALID);
        }
        puts(x, 3, 9, 8);
        due("kill in bare rows", x.kill(3), 2);
        due("wordOf(0, 0)", x.wordOf(0, 0), 2);
        due("chipOf(3, 1)", x.chipOf(3, 1), 0);
        due("chipOf(3, 3)", x.chipOf(3, 3), 0);
        due("chipOf(3, 4)", x.chipOf(3, 4), 0);
        due("kill of a dead one", x.kill(3), IMPOSSIBLE);
        x.elect(0);
        puts(x, 1, 1, 2, 3);
        puts(x, 2, 4, 5);
        due("kill in guarded rows", x.kill(1), 0);
        due("words that wait", x.familyOf(0, 2), 3);
        due("a second death", x.kill(2), 4);
        due("the one that still waits", x.wordOf(4, 0), 1);
        due("it is first", x.wordOf(4, 4), 0);
        due("words that wait", x.familyOf(0, 2), 1);
        due("its value", x.read(4), 3);
        due("rowOf(0, 0)", x.rowOf(0, 0), 0);
        due("rowOf(0, 2)", x.rowOf(0, 2), 3);
        due("kill of the godfather", x.kill(0), 1);
        due("chipOf(0, 2)", x.chipOf(0, 2), 0);
        due("familyOf(0, 0)", x.familyOf(0, 0), MISSING);
        due("count(5)", x.count(5), 7);
        // Kept words stay as their godfather dies; then they are bare.
        GodChips y = chips(2, 2);
        y.elect(0);
        puts(y, 1, 200);
        due("kill of a godfather without words that wait", y.kill(0), 0);
        due("read(0)", y.read(0), 200);
        due("familyOf(2, 5)", y.familyOf(2, 5), 1);
        due("kill of a bare one", y.kill(1), 1);
        // Rows broken in the godfather are bare.
        GodChips z = chips(0, 0);
        z.breaks(0, 1);
        z.elect(0);
        puts(z, 1, 1, 2, 3);
        due("kill over a bare row", z.kill(1), 1);
        due("wordOf(1, 0)", z.wordOf(1, 0), 2);
        due("wordOf(2, 4)", z.wordOf(2, 4), 1);
        // What is broken and what is spare is still told of a dead chip.
        GodChips d = new GodChips();
        d.chip(0, 1);
        d.breaks(0, 0);
        d.breaks(0, 3);
        d.chip(0, 2);
        d.kill(0);
        d.kill(1);
        due("chipOf(0, 5) of a dead one", d.chipOf(0, 5), 8);
        due("chipOf(1, 6) of a dead one", d.chipOf(1, 6), 2);
        due("chipOf(0, 0) of a dead one", d.chipOf(0, 0), 0);
    }

    private static void promise5() {
        GodChips x = new GodChips();
        x.chip(0, 2);
        x.chip(0, 2);
        x.chip(0, 0);
        for (int bad : new int[] {-1, 3, LEAST, MOST}) {
            due("breaks(" + bad + ", 0)", x.breaks(bad, 0), INVALID);
        }
        for (int bad : new int[] {-1, 6, LEAST, MOST}) {
            due("breaks(0, " + bad + ")", x.breaks(0, bad), INVALID);
        }
        puts(x, 1, 10, 20);
        due("a spare row in a bare row loses", x.breaks(1, 0), 1);
        due("the row is whole", x.rowOf(1, 0), MISSING);
        due("chipOf(1, 6)", x.chipOf(1, 6), 1);
        due("chipOf(1, 5)", x.chipOf(1, 5), 0);
        due("a spare row for an empty row", x.breaks(1, 5), 0);
        due("chipOf(1, 6)", x.chipOf(1, 6), 0);
        due("no spare row, bare", x.breaks(1, 1), 1);
        due("rowOf(1, 1)", x.rowOf(1, 1), IMPOSSIBLE);
        due("chipOf(1, 5)", x.chipOf(1, 5), 2);
        due("chipOf(1, 4)", x.chipOf(1, 4), 5);
        due("breaks of a broken row", x.breaks(1, 1), IMPOSSIBLE);
        x.kill(1);
        due("breaks of a dead one", x.breaks(1, 0), IMPOSSIBLE);

        // In a guarded row.
        GodChips y = new GodChips();
        y.chip(0, 1);
        y.chip(0, 1);
        y.chip(0, 1);
        y.elect(0);
        puts(y, 1, 10, 20);
        puts(y, 2, 30, 40);
        due("a spare row in a guarded row", y.breaks(1, 0), 0);
        due("the word is kept as before", y.rowOf(1, 0), 0);
        due("its value", y.read(0), 10);
        due("raised by ticks", y.wordOf(0, 5), 0);
        due("chipOf(1, 6)", y.chipOf(1, 6), 0);
        due("no spare row, guarded", y.breaks(1, 0), 0);
        due("the word waits", y.wordOf(0, 0), 1);
        due("rowOf(0, 0)", y.rowOf(0, 0), 10 ^ 30);
        due("a spare row, but another waits", y.breaks(2, 0), 2);
        due("wordOf(0, 0)", y.wordOf(0, 0), 2);
        due("wordOf(2, 0)", y.wordOf(2, 0), 2);
        due("rowOf(2, 0)", y.rowOf(2, 0), MISSING);
        due("rowOf(0, 0)", y.rowOf(0, 0), 0);
        due("no spare row, and none waits", y.breaks(1, 1), 0);
        due("no spare row, but another waits", y.breaks(2, 1), 2);
        due("chipOf(2, 5)", y.chipOf(2, 5), 2);
        due("count(4)", y.count(4), 0);

        // Rows of a godfather.
        GodChips z = new GodChips();
        z.chip(1, 1);
        z.chip(1, 0);
        z.chip(1, 0);
        z.elect(0);
        puts(z, 1, 1, 2, 3);
        puts(z, 2, 16, 32);
        z.kill(1);
        due("a godfather's spare row", z.breaks(0, 0), 1);
        due("its sum is made anew", z.rowOf(0, 0), 16);
        due("the row is guarded", z.familyOf(1, 4), 63);
        due("the queue goes on", z.wordOf(1, 4), 0);
        due("a godfather's row for good", z.breaks(0, 2), 1);
        due("rowOf(0, 2)", z.rowOf(0, 2), IMPOSSIBLE);
        due("the row is bare", z.familyOf(1, 4), 63 - 4);
        due("a godfather's row, none waits", z.breaks(0, 3), 0);
        due("the word that still waits", z.read(1), 2);
        due("breaks of a godfather's broken row", z.breaks(0, 2), IMPOSSIBLE);
        due("a place where nothing waits", z.chipOf(2, 4), 4);
    }

    private static void promise6() {
        GodChips x = new GodChips();
        x.chip(2, 1);
        x.chip(2, 0);
        for (int bad : new int[] {-1, 2, LEAST, MOST}) {
            due("chipOf(" + bad + ", 0)", x.chipOf(bad, 0), INVALID);
        }
        for (int bad : new int[] {-1, 7, LEAST, MOST}) {
            due("chipOf(0, " + bad + ")", x.chipOf(0, bad), INVALID);
        }
        puts(x, 1, 5, 6, 7);
        x.breaks(1, 1);
        x.breaks(1, 4);
        x.elect(0);
        due("family", x.chipOf(1, 0), 2);
        due("lives", x.chipOf(1, 1), 1);
        due("godfather", x.chipOf(1, 2), 0);
        due("words", x.chipOf(1, 3), 2);
        due("places", x.chipOf(1, 4), 2);
        due("broken rows", x.chipOf(1, 5), 2 + 16);
        due("spare rows", x.chipOf(1, 6), 0);
        due("godfather's godfather", x.chipOf(0, 2), 1);
        due("godfather's words", x.chipOf(0, 3), 0);
        due("godfather's places", x.chipOf(0, 4), 0);
        due("godfather's spare rows", x.chipOf(0, 6), 1);
        // A row in which a word of the family waits is no place.
        x.chip(2, 0);
        x.chip(1, 0);
        x.kill(1);
        due("places beside words that wait", x.chipOf(2, 4), 4);
        due("places of another family", x.chipOf(3, 4), 6);
    }

    private static void promise7() {
        GodChips x = chips(0, 0, 0);
        for (int bad : new int[] {-1, 3, LEAST, MOST}) {
            due("rowOf(" + bad + ", 0)", x.rowOf(bad, 0), INVALID);
        }
        for (int bad : new int[] {-1, 6, LEAST, MOST}) {
            due("rowOf(0, " + bad + ")", x.rowOf(0, bad), INVALID);
        }
        puts(x, 1, 100, 50);
        puts(x, 2, 25);
        due("rowOf(1, 1)", x.rowOf(1, 1), 1);
        due("rowOf(2, 0)", x.rowOf(2, 0), 2);
        due("rowOf(2, 1)", x.rowOf(2, 1), MISSING);
        due("rowOf(0, 0)", x.rowOf(0, 0), MISSING);
        x.breaks(0, 3);
        due("a broken row", x.rowOf(0, 3), IMPOSSIBLE);
        x.elect(0);
        due("a godfather's broken row", x.rowOf(0, 3), IMPOSSIBLE);
        due("the sum of two", x.rowOf(0, 0), 100 ^ 25);
        due("the sum of one", x.rowOf(0, 1), 50);
        due("the sum of none", x.rowOf(0, 5), 0);
        x.kill(1);
        due("a dead one's row", x.rowOf(1, 1), IMPOSSIBLE);
        due("a dead one's row out of range", x.rowOf(1, 6), INVALID);
        due("the sum has the word that waits", x.rowOf(0, 0), 100 ^ 25);
        x.kill(2);
        due("the sum behind both", x.rowOf(0, 0), 0);
        due("the sum of one that waits", x.rowOf(0, 1), 50);
        x.kill(0);
        due("a dead godfather's row", x.rowOf(0, 0), IMPOSSIBLE);
    }

    private static void promise8() {
        GodChips x = chips(0, 0, 1, 1, 1);
        for (int bad : new int[] {-1, 5, LEAST, MOST}) {
            due("put(" + bad + ", 0)", x.put(bad, 0), INVALID);
        }
        for (int bad : new int[] {-1, 256, LEAST, MOST}) {
            due("put(0, " + bad + ")", x.put(0, bad), INVALID);
        }
        x.elect(0);
        due("put to a godfather", x.put(0, 1), IMPOSSIBLE);
        due("put 0", x.put(1, 0), 0);
        due("put 255", x.put(1, 255), 1);
        due("read(0)", x.read(0), 0);
        due("read(1)", x.read(1), 255);
        due("wordOf(1, 2)", x.wordOf(1, 2), 1);
        due("wordOf(1, 3)", x.wordOf(1, 3), 0);
        x.breaks(2, 0);
        due("past a broken row", x.put(2, 3), 2);
        due("wordOf(2, 2)", x.wordOf(2, 2), 1);
        x.kill(3);
        due("put to a dead one", x.put(3, 1), IMPOSSIBLE);
        // A hole is filled, but not one in whose row a word waits.
        x.chip(0, 0);
        puts(x, 5, 1, 2);
        x.kill(1);
        x.carry(3, 4);
        due("the row beside one that waits", x.put(5, 9), 5);
        due("wordOf(5, 2)", x.wordOf(5, 2), 2);
        x.tick(2);
        due("put", x.put(5, 10), 6);
        due("the next row", x.wordOf(6, 2), 4);
        // 24 words, lost ones too.
        GodChips y = chips(0, 1, 2, 0, 1);
        for (int word = 0; word < 24; word++) {
            due("put", y.put(word / 6, word), word);
        }
        due("put of a 25th", y.put(4, 0), LIMIT);
        due("put of a 25th where no place is", y.put(0, 0), IMPOSSIBLE);
        due("put of a 25th with a wrong value", y.put(4, 256), INVALID);
        y.kill(0);
        due("lost words are words", y.put(4, 0), LIMIT);
        due("put to the dead one", y.put(0, 0), IMPOSSIBLE);
        due("count(2)", y.count(2), 24);
    }

    private static void promise9() {
        GodChips x = chips(0, 0, 0);
        puts(x, 1, 7);
        puts(x, 2, 8);
        for (int bad : new int[] {-1, 2, 24, LEAST, MOST}) {
            due("write(" + bad + ", 0)", x.write(bad, 0), INVALID);
        }
        for (int bad : new int[] {-1, 256, LEAST, MOST}) {
            due("write(0, " + bad + ")", x.write(0, bad), INVALID);
        }
        x.elect(0);
        due("write(0, 255)", x.write(0, 255), 7);
        due("read(0)", x.read(0), 255);
        due("the sum", x.rowOf(0, 0), 255 ^ 8);
        due("write(0, 0)", x.write(0, 0), 255);
        due("write of the same", x.write(0, 0), 0);
        x.kill(1);
        due("write of one that waits", x.write(0, 1), IMPOSSIBLE);
        due("write of one that waits, wrong value", x.write(0, 256), INVALID);
        x.kill(2);
        due("write of a lost one", x.write(0, 1), IMPOSSIBLE);
    }

    private static void promise10() {
        GodChips x = chips(0, 0);
        due("read(0) without words", x.read(0), INVALID);
        x.elect(0);
        puts(x, 1, 77, 88);
        for (int bad : new int[] {-1, 2, 24, LEAST, MOST}) {
            due("read(" + bad + ")", x.read(bad), INVALID);
        }
        due("read(1)", x.read(1), 88);
        x.kill(1);
        due("read of one that waits", x.read(1), 88);
        x.breaks(0, 1);
        due("read of a lost one", x.read(1), MISSING);
        due("read of the other", x.read(0), 77);
    }

    private static void promise11() {
        GodChips x = chips(0, 0, 1, 1, 2);
        puts(x, 0, 10, 20, 30);
        for (int bad : new int[] {-1, 3, 24, LEAST, MOST}) {
            due("carry(" + bad + ", 1)", x.carry(bad, 1), INVALID);
        }
        for (int bad : new int[] {-1, 5, LEAST, MOST}) {
            due("carry(0, " + bad + ")", x.carry(0, bad), INVALID);
        }
        due("carry to its own chip", x.carry(1, 0), IMPOSSIBLE);
        due("carry(1, 1)", x.carry(1, 1), 0);
        due("its chip", x.wordOf(1, 1), 1);
        due("its row is free", x.rowOf(0, 1), MISSING);
        due("carry(2, 1)", x.carry(2, 1), 1);
        due("carry to another family", x.carry(0, 2), 0);
        due("its family", x.wordOf(0, 3), 1);
        due("raised by ticks", x.wordOf(0, 5), 0);
        x.elect(3);
        due("the sum of the new family", x.rowOf(3, 0), 10);
        due("carry to a godfather", x.carry(0, 3), IMPOSSIBLE);
        x.kill(4);
        due("carry to a dead one", x.carry(0, 4), IMPOSSIBLE);
        puts(x, 0, 1, 2, 3, 4, 5, 6);
        due("carry to a full one", x.carry(0, 0), IMPOSSIBLE);
        x.kill(2);
        due("carry of one that waits", x.carry(0, 1), IMPOSSIBLE);
        due("carry of one that waits to no chip", x.carry(0, 5), INVALID);
        x.kill(3);
        due("carry of a lost one", x.carry(0, 1), IMPOSSIBLE);
        // Not to a row in which a word waits.
        GodChips y = threeWait(0, 1);
        puts(y, 3, 99);
        due("carry beside words that wait", y.carry(3, 2), 3);
        // The row that is left may be the place of the next.
        GodChips z = chips(0, 0);
        puts(z, 0, 1, 2);
        z.carry(0, 1);
        due("put to the row that is left", z.put(0, 3), 2);
        due("wordOf(2, 2)", z.wordOf(2, 2), 0);
    }

    private static void promise12() {
        GodChips x = chips(0, 0, 0, 1);
        for (int bad : new int[] {-1, 4, LEAST, MOST}) {
            due("empty(" + bad + ")", x.empty(bad), INVALID);
        }
        due("empty of an empty one", x.empty(0), 0);
        puts(x, 0, 1, 2, 3);
        puts(x, 1, 4);
        // Chip 2 has 6 places, chip 1 has 5: 2, then 1 and 2 have 5 each: 1, then 2.
        due("empty(0)", x.empty(0), 3);
        due("word 0", x.wordOf(0, 1), 2);
        due("word 1", x.wordOf(1, 1), 1);
        due("word 2", x.wordOf(2, 1), 2);
        due("word 1's row", x.wordOf(1, 2), 1);
        due("word 2's row", x.wordOf(2, 2), 1);
        due("chipOf(0, 3)", x.chipOf(0, 3), 0);
        due("chipOf(0, 4)", x.chipOf(0, 4), 6);
        due("rowOf(0, 0)", x.rowOf(0, 0), MISSING);
        due("raised by ticks", x.count(7), 0);
        GodChips first = chips(0, 0);
        puts(first, 1, 1);
        first.empty(1);
        due("to chip 0", first.wordOf(0, 1), 0);
        // Their own family first, be there ever so few places; then the others.
        GodChips y = chips(0, 0, 1, 2, 2);
        puts(y, 1, 1, 2, 3, 4, 5);
        puts(y, 0, 6, 7, 8);
        puts(y, 3, 9);
        due("empty(0)", y.empty(0), 3);
        due("own family", y.wordOf(5, 1), 1);
        due("most places, lowest number", y.wordOf(6, 1), 2);
        due("most places", y.wordOf(7, 1), 4);
        // By rows, not by numbers of words.
        GodChips z = chips(0, 0, 1);
        puts(z, 0, 1, 2);
        z.carry(0, 1);
        puts(z, 0, 3);
        puts(z, 1, 4, 5, 6, 7);
        due("empty(0)", z.empty(0), 2);
        due("word 2 of row 0", z.wordOf(2, 1), 1);
        due("word 1 of row 1", z.wordOf(1, 1), 2);
        // Not possible: nothing is changed then.
        GodChips e = chips(0, 0, 0, 1);
        e.elect(1);
        due("empty of a godfather", e.empty(1), IMPOSSIBLE);
        puts(e, 0, 1, 2);
        puts(e, 2, 3, 4, 5, 6, 7);
        puts(e, 3, 1, 2, 3, 4, 5, 6);
        int states = e.count(10);
        due("empty without a second place", e.empty(0), IMPOSSIBLE);
        due("word 0 stays", e.wordOf(0, 1), 0);
        due("word 1 stays", e.wordOf(1, 1), 0);
        due("states", e.count(10), states);
        due("chipOf(2, 4)", e.chipOf(2, 4), 1);
        e.kill(3);
        due("empty of a dead one", e.empty(3), IMPOSSIBLE);
        // A word beside one that waits in the same row.
        GodChips w = chips(0, 0, 0, 1);
        w.elect(0);
        puts(w, 1, 1);
        puts(w, 2, 2);
        w.kill(1);
        due("empty beside a word that waits", w.empty(2), 1);
        due("it comes to the other family", w.wordOf(1, 1), 3);
        due("the sum", w.rowOf(0, 0), 1);
    }

    private static void promise13() {
        GodChips x = threeWait(1);
        puts(x, 2, 44);
        for (int bad : new int[] {-1, 4, 24, LEAST, MOST}) {
            due("wordOf(" + bad + ", 0)", x.wordOf(bad, 0), INVALID);
        }
        for (int bad : new int[] {-1, 6, LEAST, MOST}) {
            due("wordOf(0, " + bad + ")", x.wordOf(0, bad), INVALID);
        }
        due("kept", x.wordOf(3, 0), 0);
        due("its chip", x.wordOf(3, 1), 2);
        due("its row", x.wordOf(3, 2), 0);
        due("its family", x.wordOf(3, 3), 1);
        due("ahead of it", x.wordOf(3, 4), MISSING);
        due("raised", x.wordOf(3, 5), 0);
        due("waits", x.wordOf(2, 0), 1);
        due("its chip", x.wordOf(2, 1), MISSING);
        due("its row", x.wordOf(2, 2), 2);
        due("its family", x.wordOf(2, 3), 0);
        due("ahead of it", x.wordOf(2, 4), 2);
        x.breaks(0, 1);
        due("lost", x.wordOf(1, 0), 2);
        for (int what = 1; what <= 4; what++) {
            due("of a lost one " + what, x.wordOf(1, what), MISSING);
        }
        due("raised", x.wordOf(1, 5), 0);
        due("ahead of the next", x.wordOf(2, 4), 1);
        x.tick(1);
        due("raised", x.wordOf(0, 5), 1);
        due("ahead of the next", x.wordOf(2, 4), 0);
        due("its new family", x.wordOf(0, 3), 1);
        // A word that was raised twice, and is told so when it is lost.
        GodChips y = chips(0, 0, 0, 0);
        y.elect(0);
        puts(y, 1, 5);
        y.kill(1);
        y.tick(1);
        due("raised to", y.wordOf(0, 1), 2);
        y.kill(2);
        y.tick(1);
        due("raised to", y.wordOf(0, 1), 3);
        due("raised twice", y.wordOf(0, 5), 2);
        y.kill(0);
        y.kill(3);
        due("lost", y.wordOf(0, 0), 2);
        due("raised twice", y.wordOf(0, 5), 2);
    }

    private static void promise14() {
        GodChips x = chips(0, 0, 1, 0, 2);
        for (int bad : new int[] {-1, 3, LEAST, MOST}) {
            due("familyOf(" + bad + ", 0)", x.familyOf(bad, 0), INVALID);
        }
        for (int bad : new int[] {-1, 7, LEAST, MOST}) {
            due("familyOf(0, " + bad + ")", x.familyOf(0, bad), INVALID);
        }
        due("no godfather", x.familyOf(0, 0), MISSING);
        due("chips that live", x.familyOf(0, 1), 1 + 2 + 8);
        puts(x, 1, 1, 2, 3);
        puts(x, 3, 4, 5);
        puts(x, 2, 6);
        due("kept", x.familyOf(0, 3), 5);
        due("kept in bare rows", x.familyOf(0, 5), 5);
        due("guarded", x.familyOf(0, 4), 0);
        due("no queue", x.familyOf(0, 6), MISSING);
        x.breaks(0, 1);
        x.elect(0);
        due("godfather", x.familyOf(0, 0), 0);
        due("guarded", x.familyOf(0, 4), 63 - 2);
        due("kept in bare rows", x.familyOf(0, 5), 2);
        due("of another family", x.familyOf(1, 5), 1);
        x.kill(3);
        due("chips that live", x.familyOf(0, 1), 1 + 2);
        due("wait", x.familyOf(0, 2), 1);
        due("kept", x.familyOf(0, 3), 3);
        due("first of the queue", x.familyOf(0, 6), 3);
        due("wait elsewhere", x.familyOf(1, 2), 0);
        x.breaks(1, 2);
        due("wait", x.familyOf(0, 2), 2);
        due("first of the queue still", x.familyOf(0, 6), 3);
        x.tick(1);
        due("first of the queue then", x.familyOf(0, 6), 2);
        due("a family that died", x.kill(2) + x.familyOf(1, 1), 1);
    }

    private static void promise15() {
        GodChips x = chips(0);
        for (int bad : new int[] {0, -1, 101, LEAST, MOST}) {
            due("tick(" + bad + ")", x.tick(bad), INVALID);
        }
        due("tick(100)", x.tick(100), 0);
        due("tick(1)", x.tick(1), 0);
        due("count(6)", x.count(6), 101);

        // Own family first, be there ever so few places.
        GodChips own = threeWait(0, 1);
        puts(own, 2, 1, 2);
        due("places", own.chipOf(2, 4), 1);
        due("tick(1)", own.tick(1), 1);
        // Row 0 is left by the word, so chip 2 has two places, the lowest of them 0.
        due("its chip", own.wordOf(0, 1), 2);
        due("its row", own.wordOf(0, 2), 0);
        due("the first one's queue", own.familyOf(0, 2), 2);
        due("tick(2)", own.tick(2), 2);
        due("count(7)", own.count(7), 3);
        due("tick behind the last", own.tick(3), 0);

        // The row that it leaves is counted with the places.
        GodChips most = chips(0, 0, 0, 0);
        most.elect(0);
        puts(most, 1, 9);
        puts(most, 3, 1, 2);
        most.kill(1);
        // Chip 2: rows 0 to 5 but row 0 if word 0 still waited: 6; chip 3: 4.
        most.tick(1);
        due("most places", most.wordOf(0, 1), 2);
        GodChips tie = chips(0, 0, 0, 0, 0);
        tie.elect(4);
        puts(tie, 0, 9);
        puts(tie, 1, 8, 7);
        puts(tie, 2, 6, 5);
        tie.carry(1, 3);
        // Chip 1 keeps row 1, chip 2 rows 0 and 1, chip 3 row 0: behind row 0 is left, 5, 4, 5.
        tie.kill(0);
        tie.tick(1);
        due("the lowest number of several", tie.wordOf(0, 1), 1);
        due("the row it left is the lowest place", tie.wordOf(0, 2), 0);

        // Other families: most places of all of them.
        GodChips far = threeWait(1, 2, 2);
        puts(far, 2, 1, 2);
        puts(far, 3, 3);
        due("tick(1)", far.tick(1), 1);
        due("to the most places", far.wordOf(0, 1), 4);
        far.tick(2);
        due("then the lowest number", far.wordOf(1, 1), 3);
        due("then the other", far.wordOf(2, 1), 4);

        // No place: it waits, and those behind it, too.
        GodChips full = threeWait(0, 1);
        puts(full, 2, 1, 2, 3);
        full.breaks(2, 0);
        full.breaks(2, 1);
        full.breaks(2, 2);
        puts(full, 3, 1, 2, 3, 4, 5, 6);
        // Row 0 of chip 2 is broken, so no place is anywhere for word 0.
        due("tick(5)", full.tick(5), 0);
        due("it is first still", full.familyOf(0, 6), 0);
        due("ahead of the last", full.wordOf(2, 4), 2);
        due("it waits in its row", full.wordOf(0, 2), 0);
        due("the time", full.count(6), 5);
        due("carry to a full one", full.carry(3, 3), IMPOSSIBLE);
        due("it is in the way still", full.chip(0, 0), 4);
        due("it is in the way still", full.chipOf(4, 4), 3);

        // The row it waits in may be the only place, and is one only for it.
        GodChips swap = chips(0, 0, 0);
        swap.elect(0);
        puts(swap, 1, 50);
        swap.chip(0, 0);
        puts(swap, 2, 60, 61, 62, 63, 64, 65);
        swap.carry(1, 3);
        swap.write(1, 66);
        puts(swap, 3, 70, 71, 72, 73, 74);
        swap.kill(1);
        due("no place beside it", swap.count(9), 0);
        due("tick(1)", swap.tick(1), 1);
        due("its chip", swap.wordOf(0, 1), 2);
        due("its row", swap.wordOf(0, 2), 0);

        // All families by one tick, 0 first.
        GodChips all = chips(0, 0, 1, 1, 2);
        all.elect(0);
        all.elect(2);
        puts(all, 1, 1, 2);
        puts(all, 3, 3, 4);
        puts(all, 4, 5, 6, 7);
        all.kill(3);
        all.kill(1);
        due("tick(1)", all.tick(1), 2);
        due("family 0 first", all.wordOf(0, 2), 3);
        due("family 1 then", all.wordOf(2, 2), 4);
        due("tick(1)", all.tick(1), 1);
        due("the last place", all.wordOf(1, 2), 5);
        due("no place any more", all.wordOf(3, 0), 1);

        // The limit of the time.
        GodChips late = chips(0, 0, 0);
        text(late, "t100;t100;t100;t100;t100;t100;t100;t100;t100;t100;t100;t100;");
        for (int i = 0; i < 83; i++) {
            late.play();
        }
        for (int i = 0; i < 3; i++) {
            late.tick(100);
        }
        due("the time", late.count(6), 99900);
        due("a text behind the limit", late.play(), IMPOSSIBLE);
        due("its fault", late.fault(0), 5);
        due("its reason", late.fault(1), 3);
        due("tick(99)", late.tick(99), 0);
        due("tick(2)", late.tick(2), LIMIT);
        due("tick(101)", late.tick(101), INVALID);
        due("the time", late.count(6), 99999);
        due("tick(1)", late.tick(1), 0);
        due("tick(1)", late.tick(1), LIMIT);
        due("the time", late.count(6), 100000);
        late.elect(0);
        late.put(1, 1);
        late.kill(1);
        due("calm() at the last time", late.calm(), 1);
    }

    private static void promise16() {
        GodChips x = chips(0, 0, 0, 1, 1);
        x.elect(0);
        puts(x, 1, 1, 2, 3);
        puts(x, 2, 4, 5);
        puts(x, 3, 6);
        for (int bad : new int[] {-1, -2, 5, LEAST, MOST}) {
            due("loss(" + bad + ", 0)", x.loss(bad, 0), INVALID);
        }
        for (int bad : new int[] {-2, 5, LEAST, MOST}) {
            due("loss(0, " + bad + ")", x.loss(0, bad), INVALID);
        }
        due("loss(-1, -1)", x.loss(-1, -1), INVALID);
        due("loss(1, 1)", x.loss(1, 1), INVALID);
        due("loss(1, -1)", x.loss(1, -1), 0);
        due("loss(1, 2)", x.loss(1, 2), 4);
        due("loss(1, 0)", x.loss(1, 0), 3);
        due("loss(0, 1)", x.loss(0, 1), 3);
        due("loss(0, -1)", x.loss(0, -1), 0);
        due("loss(3, 1)", x.loss(3, 1), 1);
        due("nothing is changed", x.count(1), 5);
        due("nothing waits", x.count(4), 0);
        due("states", x.count(10), 4);
        x.kill(4);
        due("loss(4, -1)", x.loss(4, -1), IMPOSSIBLE);
        due("loss(1, 4)", x.loss(1, 4), IMPOSSIBLE);
        due("loss(3, 4) of one that would lose", x.loss(3, 4), IMPOSSIBLE);
        due("loss(4, 5)", x.loss(4, 5), INVALID);
        due("loss(4, 4)", x.loss(4, 4), INVALID);
        x.kill(1);
        due("loss with words that wait", x.loss(2, -1), 4);
        due("loss(2, 0)", x.loss(2, 0), 5);
        due("loss(0, 2)", x.loss(0, 2), 5);
    }

    private static void promise17() {
        GodChips x = chips(0, 0, 0, 1, 1, 2);
        x.elect(0);
        puts(x, 1, 1);
        puts(x, 3, 2);
        due("safe()", x.safe(), 1 + 2 + 4 + 16 + 32);
        x.kill(5);
        due("a dead one is none", x.safe(), 1 + 2 + 4 + 16);
        x.kill(1);
        due("a godfather of words that wait is not", x.safe(), 4 + 16);
        due("nothing is changed", x.count(1), 4);
        x.elect(4);
        due("guarded then", x.safe(), 4 + 8 + 16);
        x.breaks(4, 0);
        due("bare then", x.safe(), 4 + 16);
    }

    private static void promise18() {
        GodChips x = chips(0);
        for (int bad : new int[] {-1, 2, LEAST, MOST}) {
            due("worstTwo(" + bad + ")", x.worstTwo(bad), INVALID);
        }
        due("one lives", x.worstTwo(0), MISSING);
        due("one lives", x.worstTwo(1), MISSING);
        x.chip(1, 0);
        due("no words", x.worstTwo(0), 1);
        due("no words", x.worstTwo(1), 0);
        x.chip(2, 0);
        puts(x, 2, 1, 2);
        due("the lowest first one", x.worstTwo(0), 2);
        puts(x, 1, 1);
        due("two", x.worstTwo(0), 12);
        due("words", x.worstTwo(1), 3);
        x.kill(0);
        due("two that live", x.worstTwo(0), 12);
        x.kill(1);
        due("one lives", x.worstTwo(1), MISSING);
        // Chips 1 and 2 keep words in two rows both: more than chip 1 and its godfather lose.
        GodChips y = chips(0, 0, 0, 0);
        y.elect(0);
        puts(y, 1, 1, 2, 3);
        puts(y, 2, 1, 2);
        due("worstTwo(0)", y.worstTwo(0), 12);
        due("worstTwo(1)", y.worstTwo(1), 4);
        due("nothing is changed", y.count(1), 4);
        // A second death of which the first made the words wait.
        GodChips z = chips(0, 0, 0);
        z.elect(2);
        puts(z, 0, 1);
        due("a chip, then its godfather", z.worstTwo(0), 2);
        due("a chip, then its godfather", z.worstTwo(1), 1);
    }

    private static void promise19() {
        GodChips x = chips(0, 0, 1, 1);
        due("none waits", x.calm(), 0);
        x.elect(0);
        x.elect(3);
        puts(x, 1, 1, 2, 3);
        puts(x, 2, 4);
        x.kill(1);
        due("three wait", x.calm(), 3);
        due("the time goes not by", x.count(6), 0);
        due("nothing is raised", x.count(4), 3);
        due("states", x.count(10), 4);
        x.breaks(2, 0);
        due("another family's at the same time", x.calm(), 3);
        x.tick(1);
        due("calm() behind a tick", x.calm(), 2);
        x.kill(2);
        due("for good", x.calm(), MISSING);
        x.chip(2, 0);
        x.tick(100);
        due("none waits then", x.calm(), 0);
        // Some come, but not all.
        GodChips y = threeWait(1);
        puts(y, 2, 1, 2, 3, 4);
        due("two places for three", y.calm(), MISSING);
        y.chip(1, 0);
        due("places for three", y.calm(), 3);
    }

    private static void promise20() {
        GodChips x = chips(0, 0, 0, 1);
        for (int bad : new int[] {-1, 3, LEAST, MOST}) {
            due("heir(" + bad + ")", x.heir(bad), INVALID);
        }
        due("no chips", x.heir(2), MISSING);
        due("the lowest", x.heir(0), 0);
        puts(x, 0, 1, 2);
        due("one without words", x.heir(0), 1);
        puts(x, 1, 3);
        puts(x, 2, 4);
        due("fewest words", x.heir(0), 1);
        due("nothing is changed", x.chipOf(1, 3), 1);
        x.kill(1);
        due("fewest words of the living", x.heir(0), 2);
        x.kill(2);
        due("two words", x.heir(0), 0);
        x.kill(3);
        due("it can't be emptied", x.heir(0), MISSING);
        x.chip(1, 0);
        due("it can be emptied", x.heir(0), 0);
        x.kill(0);
        due("none lives", x.heir(0), MISSING);
        x.elect(4);
        due("there is a godfather", x.heir(1), IMPOSSIBLE);
        // The one with fewer words may be one that can't be emptied.
        GodChips y = chips(0, 0);
        puts(y, 0, 1, 2, 3, 4);
        puts(y, 1, 1, 2, 3);
        for (int row = 4; row < 6; row++) {
            y.breaks(0, row);
        }
        due("3 words, no place; 4 words, 3 places", y.heir(0), MISSING);
        y.breaks(1, 5);
        due("none", y.heir(0), MISSING);
        GodChips z = chips(0, 0);
        puts(z, 0, 1, 2, 3);
        puts(z, 1, 1, 2);
        for (int row = 3; row < 6; row++) {
            z.breaks(0, row);
        }
        due("2 words, no place; 3 words, 4 places", z.heir(0), 0);
        GodChips full = chips(1, 2);
        puts(full, 0, 1, 2, 3, 4, 5);
        due("five words", full.heir(1), 0);
        puts(full, 0, 6);
        due("six words", full.heir(1), 0);
        full.put(1, 7);
        due("six words, five places", full.heir(1), MISSING);
        GodChips eight = chips(1, 1, 1, 1, 1, 1, 1, 1);
        due("eight chips", eight.heir(1), 0);
        due("eight chips of another family", eight.heir(0), MISSING);
        for (int chip = 0; chip < 7; chip++) {
            eight.put(chip, chip);
        }
        due("the last of eight", eight.heir(1), 7);
    }

    private static void promise21() {
        GodChips x = chips(0, 0, 1, 1);
        for (int bad : new int[] {-1, 12, LEAST, MOST}) {
            due("count(" + bad + ")", x.count(bad), INVALID);
        }
        x.elect(0);
        puts(x, 1, 1, 2, 3);
        puts(x, 2, 4);
        x.kill(1);
        x.tick(2);
        x.breaks(0, 2);
        x.put(3, 5);
        x.kill(3);
        text(x, "abc");
        due("chips", x.count(0), 4);
        due("chips that live", x.count(1), 2);
        due("words", x.count(2), 5);
        due("words kept", x.count(3), 2);
        due("words that wait", x.count(4), 0);
        due("words lost", x.count(5), 3);
        due("time", x.count(6), 2);
        due("raised", x.count(7), 2);
        due("godfathers", x.count(8), 1);
        due("places", x.count(9), 4);
        due("states", x.count(10), 4);
        due("text", x.count(11), 3);
        due("words that wait", threeWait().count(4), 3);
        due("words lost beside those that wait", threeWait().count(5), 0);
        due("words kept beside those that wait", threeWait().count(3), 0);
        GodChips eight = chips(0, 0, 1, 1, 2, 2, 0, 0);
        due("places of eight chips", eight.count(9), 48);
        puts(eight, 0, 5);
        due("word 0 is kept", eight.count(3), 1);
        due("places of eight chips", eight.count(9), 47);
        due("eight chips that live", eight.count(1), 8);
        due("those of a family", eight.familyOf(0, 1), 1 + 2 + 64 + 128);
        eight.elect(7);
        due("sum by the last chip", eight.rowOf(7, 0), 5);
        due("safe() of eight", eight.safe(), 255);
        eight.kill(0);
        eight.tick(1);
        due("raised among eight", eight.wordOf(0, 1), 1);
        due("places beside words that wait", threeWait(0, 1).count(9), 3 + 6);
        GodChips y = chips(0);
        due("one state", y.count(10), 1);
    }

    private static void promise22() {
        GodChips x = chips(0, 0);
        due("count(10)", x.count(10), 2);
        due("undo()", x.undo(), 1);
        due("one chip", x.count(0), 1);
        due("undo()", x.undo(), 0);
        due("no chip", x.count(0), 0);
        due("undo()", x.undo(), IMPOSSIBLE);
        // Five changes, of which the last four can be undone.
        GodChips y = new GodChips();
        for (int i = 0; i < 5; i++) {
            y.chip(0, 0);
            due("states", y.count(10), Math.min(i + 1, 4));
        }
        for (int left = 3; left >= 0; left--) {
            due("undo()", y.undo(), left);
            due("chips", y.count(0), left + 1);
        }
        due("undo()", y.undo(), IMPOSSIBLE);
        due("chips", y.count(0), 1);
        // Each change, and nothing else, is recorded and undone whole; the text stays.
        GodChips z = new GodChips();
        z.chip(0, 1);
        z.chip(0, 1);
        undone(z, 1);
        z.elect(0);
        undone(z, 2);
        z.put(1, 10);
        undone(z, 3);
        z.write(0, 20);
        undone(z, 4);
        z.chip(1, 0);
        z.carry(0, 2);
        undone(z, 5);
        z.empty(2);
        undone(z, 6);
        z.breaks(1, 0);
        undone(z, 7);
        z.breaks(1, 0);
        z.tick(1);
        undone(z, 8);
        z.kill(2);
        undone(z, 9);
        text(z, "t1;");
        z.play();
        undone(z, 10);
        text(z, "");
        z.play();
        due("an empty text is a change", z.count(10), 4);
        // Calls that return errors and calls that only tell are not recorded.
        GodChips e = chips(0);
        e.elect(9);
        e.put(0, 256);
        e.tick(0);
        e.loss(0, -1);
        e.safe();
        e.calm();
        e.heir(0);
        e.fault(0);
        e.type(65);
        e.play();
        e.clearText();
        due("states", e.count(10), 1);
        due("undo()", e.undo(), 0);
        // What was undone is a change no more: it can be done anew.
        GodChips u = chips(0, 0);
        u.elect(0);
        u.put(1, 7);
        u.kill(1);
        u.undo();
        due("it is kept again", u.wordOf(0, 1), 1);
        due("the sum", u.rowOf(0, 0), 7);
        u.undo();
        due("the word is none", u.read(0), INVALID);
        due("put", u.put(1, 8), 0);
        due("read(0)", u.read(0), 8);
        u.undo();
        u.undo();
        due("no godfather", u.familyOf(0, 0), MISSING);
        // How often a word was raised is undone, too.
        GodChips r = threeWait(1);
        r.tick(1);
        due("raised", r.wordOf(0, 5), 1);
        r.undo();
        due("raised", r.wordOf(0, 5), 0);
        due("raised", r.count(7), 0);
        due("it waits", r.wordOf(0, 4), 0);
        due("the last of the queue", r.wordOf(2, 4), 2);
        r.tick(100);
        due("raised", r.wordOf(0, 5), 1);
        due("raised", r.count(7), 3);
    }

    /** The last change is undone and is seen so; then all that it changed is as it was before undo. */
    private static void undone(GodChips x, int step) {
        int before = x.count(10);
        due("states of step " + step, before, Math.min(4, step + 1 + (step > 4 ? 1 : 0)));
        String now = seen(x);
        int length = x.count(11);
        due("undo of step " + step, x.undo(), before - 1);
        due("the text of step " + step, x.count(11), length);
        due("step " + step + " is undone", now.equals(seen(x)) ? 1 : 0, 0);
        redo(x, step);
        due("step " + step + " is done anew", now.equals(seen(x)) ? 1 : 0, 1);
    }

    private static void redo(GodChips x, int step) {
        switch (step) {
            case 1: x.chip(0, 1); break;
            case 2: x.elect(0); break;
            case 3: x.put(1, 10); break;
            case 4: x.write(0, 20); break;
            case 5: x.carry(0, 2); break;
            case 6: x.empty(2); break;
            case 7: x.breaks(1, 0); break;
            case 8: x.tick(1); break;
            case 9: x.kill(2); break;
            default: x.play(); break;
        }
    }

    private static String seen(GodChips x) {
        StringBuilder all = new StringBuilder();
        for (int what = 0; what <= 9; what++) {
            all.append(x.count(what)).append(' ');
        }
        for (int chip = 0; chip < x.count(0); chip++) {
            all.append(x.chipOf(chip, 3)).append(' ').append(x.chipOf(chip, 5)).append(' ');
            all.append(x.chipOf(chip, 6)).append(' ');
        }
        for (int word = 0; word < x.count(2); word++) {
            all.append(x.read(word)).append(' ').append(x.wordOf(word, 1)).append(' ');
        }
        return all.toString();
    }

    private static void promise23() {
        GodChips x = new GodChips();
        for (int bad : new int[] {31, 127, -1, 0, 59 + 256, 59 + 65536, LEAST, MOST}) {
            due("type(" + bad + ")", x.type(bad), INVALID);
        }
        due("type(32)", x.type(32), 1);
        due("type(126)", x.type(126), 2);
        for (int length = 3; length <= 60; length++) {
            due("type(65)", x.type(65), length);
        }
        due("type(65)", x.type(65), LIMIT);
        due("type(127)", x.type(127), INVALID);
        due("count(11)", x.count(11), 60);
        due("no change", x.count(10), 0);
    }

    private static void promise24() {
        GodChips x = chips(0);
        due("clearText()", x.clearText(), 0);
        text(x, "k0;");
        due("clearText()", x.clearText(), 3);
        due("count(11)", x.count(11), 0);
        due("type(116)", x.type(116), 1);
        due("the new text alone", x.fault(1), 1);
        due("clearText()", x.clearText(), 1);
        due("play()", x.play(), 0);
        due("the chip lives", x.chipOf(0, 1), 1);
    }

    private static void promise25() {
        GodChips x = chips(0, 0, 1);
        for (int bad : new int[] {-1, 2, LEAST, MOST}) {
            due("fault(" + bad + ")", x.fault(bad), INVALID);
        }
        due("an empty text", x.fault(0), MISSING);
        due("an empty text", x.fault(1), MISSING);
        text(x, "e0;p1,255;p01,000;b2,5;t100;v1;k002;");
        due("fault(0)", x.fault(0), MISSING);
        due("fault(1)", x.fault(1), MISSING);
        due("nothing is done", x.count(2), 0);
        // Forms.
        faultOf(x, "k", 0, 1);
        faultOf(x, "k0", 0, 1);
        faultOf(x, "k9", 0, 1);
        faultOf(x, ";", 0, 1);
        faultOf(x, "k;", 0, 1);
        faultOf(x, "k0000;", 0, 1);
        faultOf(x, "k0 ;", 0, 1);
        faultOf(x, " k0;", 0, 1);
        faultOf(x, "K0;", 0, 1);
        faultOf(x, "x0;", 0, 1);
        faultOf(x, "k-1;", 0, 1);
        faultOf(x, "k0,1;", 0, 1);
        faultOf(x, "t1,1;", 0, 1);
        faultOf(x, "p0;", 0, 1);
        faultOf(x, "p0,;", 0, 1);
        faultOf(x, "p,1;", 0, 1);
        faultOf(x, "p0,1,;", 0, 1);
        faultOf(x, "p0,0001;", 0, 1);
        faultOf(x, "b0:1;", 0, 1);
        faultOf(x, "b0,1", 0, 1);
        faultOf(x, "b0,1/", 0, 1);
        faultOf(x, "t1;;", 3, 1);
        // A text of 60 characters that ends in the middle of an order.
        String orders = "t1;t1;t1;t1;t1;t1;t1;t1;t1;t1;t1;t1;t1;t1;t1;t1;t1;t1;t1;";
        faultOf(x, orders + "t11", 57, 1);
        faultOf(x, orders + "p0,", 57, 1);
        faultOf(x, orders.substring(3) + "t1;p0,", 57, 1);
        faultOf(x, orders.substring(3) + "k0;b,0", 57, 1);
        faultOf(x, orders.substring(3) + "p0,123", 54, 1);
        faultOf(x, orders.substring(3) + "t001;k", 59, 1);
        // Nothing of a text before is read.
        text(x, "t12;");
        faultOf(x, "t1", 0, 1);
        faultOf(x, "t1; t1;", 3, 1);
    }

    private static void promise25Reasons() {
        GodChips x = chips(0, 0, 1);
        // No such chip.
        faultOf(x, "k3;", 0, 2);
        faultOf(x, "e003;", 0, 2);
        faultOf(x, "v999;", 0, 2);
        faultOf(x, "p3,999;", 0, 2);
        faultOf(x, "b8,9;", 0, 2);
        faultOf(x, "t1;k3;k", 3, 2);
        // Not possible otherwise.
        faultOf(x, "t0;", 0, 3);
        faultOf(x, "t101;", 0, 3);
        faultOf(x, "p0,256;", 0, 3);
        faultOf(x, "b0,6;", 0, 3);
        faultOf(x, "k0;k0;", 3, 3);
        faultOf(x, "k0;e0;", 3, 3);
        faultOf(x, "k0;v0;", 3, 3);
        faultOf(x, "k0;p0,0;", 3, 3);
        faultOf(x, "k0;b0,0;", 3, 3);
        faultOf(x, "b0,0;b0,0;", 5, 3);
        faultOf(x, "e0;e1;", 3, 3);
        faultOf(x, "e0;v0;", 3, 3);
        faultOf(x, "e0;p0,1;", 3, 3);
        faultOf(x, "p0,1;e0;", 5, 3);
        faultOf(x, "p0,1;k1;k2;v0;", 11, 3);
        due("no state of it", x.count(10), 3);
        // The fault is that of the present state.
        text(x, "k2;");
        due("fault(0)", x.fault(0), MISSING);
        x.kill(2);
        due("fault(1)", x.fault(1), 3);
        x.undo();
        due("fault(1)", x.fault(1), MISSING);
        // 24 words.
        GodChips y = chips(0, 0, 0, 0, 0);
        for (int word = 0; word < 23; word++) {
            y.put(word / 6, 0);
        }
        text(y, "p4,0;");
        due("a 24th word", y.fault(0), MISSING);
        faultOf(y, "p4,0;p4,0;", 5, 3);
    }

    private static void promise26() {
        GodChips x = chips(0, 0, 1);
        due("play() of an empty text", x.play(), 0);
        due("it is a change", x.count(10), 4);
        text(x, "e0;p1,255;p01,007;b2,5;k1;t001;");
        due("play()", x.play(), 6);
        due("text stays", x.count(11), 31);
        due("godfather", x.familyOf(0, 0), 0);
        due("values", x.read(0), 255);
        due("values", x.read(1), 7);
        due("raised", x.wordOf(0, 1), 2);
        due("waits", x.wordOf(1, 0), 1);
        due("broken", x.chipOf(2, 5), 32);
        due("time", x.count(6), 1);
        due("play() anew", x.play(), IMPOSSIBLE);
        due("its fault", x.fault(0), 0);
        due("one change", x.undo(), 3);
        due("all undone", x.count(2), 0);
        due("no godfather", x.familyOf(0, 0), MISSING);
        due("time", x.count(6), 0);
        due("text stays", x.count(11), 31);
        due("play() behind undo", x.play(), 6);
        text(x, "v2;");
        due("empty by play", x.play(), IMPOSSIBLE);
        x.chip(2, 0);
        due("empty by play", x.play(), 1);
        due("it was carried", x.wordOf(0, 1), 3);
        text(x, "t1;k9;");
        due("a fault behind an order", x.play(), IMPOSSIBLE);
        due("nothing is done", x.count(6), 1);
        // A full text.
        GodChips y = chips(0);
        text(y, "t1;t1;t1;t1;t1;t1;t1;t1;t1;t1;t1;t1;t1;t1;t1;t1;t1;t1;t1;t1;");
        due("20 orders", y.play(), 20);
        due("time", y.count(6), 20);
        due("states", y.count(10), 2);
    }

    private static void all() {
        promise = 1; promise1();
        promise = 2; promise2();
        promise = 3; promise3();
        promise = 4; promise4();
        promise = 5; promise5();
        promise = 6; promise6();
        promise = 7; promise7();
        promise = 8; promise8();
        promise = 9; promise9();
        promise = 10; promise10();
        promise = 11; promise11();
        promise = 12; promise12();
        promise = 13; promise13();
        promise = 14; promise14();
        promise = 15; promise15();
        promise = 16; promise16();
        promise = 17; promise17();
        promise = 18; promise18();
        promise = 19; promise19();
        promise = 20; promise20();
        promise = 21; promise21();
        promise = 22; promise22();
        promise = 23; promise23();
        promise = 24; promise24();
        promise = 25; promise25(); promise25Reasons();
        promise = 26; promise26();
    }

    public static void main(String[] args) {
        all();
        System.out.println(checks + " checks of 26 promises, " + wrong + " wrong");
        if (wrong != 0) {
            System.exit(1);
        }
    }
}
