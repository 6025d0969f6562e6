/** The boundaries of promises 8 to 13: the calls about words. */
final class WordEdges extends Edges {

    private static void put() {
        says(8, "Puts a new word into the lowest row of a chip that is a place for it.");
        Counted x = Counted.of(0, 0, 0, 1).electing(0).puts(1, 1).puts(2, 1, 2, 3, 4).breaking(2, 5).carrying(3, 3);
        x.killing(1);
        // Chip 2: row 0 and 1 keep words, 2 is free, 3 keeps a word, 4 is free, 5 is broken.
        due("rows of chip 2", x.chipOf(2, 4), 2);
        due("the lowest place", x.wordOf(x.put(2, 5), 2), 2);
        due("the next one", x.wordOf(x.put(2, 6), 2), 4);
        due("no place any more", x.put(2, 7), IMPOSSIBLE);
        due("its chip", x.wordOf(5, 1), 2);
        due("its family", x.wordOf(5, 3), 0);
        due("it was raised by no tick", x.wordOf(5, 5), 0);
        due("the lowest row is the last one", Counted.of(0).breaking(0, 0, 1, 2, 3, 4).puts(0, 3).rowOf(0, 5), 0);
        due("row 0 where a word waits", waiting(1, 0).puts(2, 7).wordOf(1, 2), 1);
        due("row 0 where another family's word waits", waiting(1, 1).puts(2, 7).wordOf(1, 2), 0);

        numberOfAChip(8, "`chip`: number of the chip", (y, chip) -> y.put(chip, 0));

        says(8, "`value`: 0 to 255");
        for (int each : new int[] {0, 1, 127, 128, 254, 255}) {
            int value = each;
            change("put(5, " + value + ")", Edges::rich, y -> y.put(5, value), 7);
            due("read", rich().puts(5, value).read(7), value);
        }
        refusedFor("value", Edges::rich, (y, value) -> y.put(5, value), INVALID, -1, 256, LEAST, MOST);

        says(8, "Returns the number of the word; INVALID_ARGUMENT if an argument is out of range; NOT_POSSIBLE if the"
            + " chip is dead, is a godfather, or has no place; LIMIT_REACHED if there are 24 words.");
        refused("a dead one", Edges::rich, y -> y.put(1, 0), IMPOSSIBLE);
        refused("a godfather", Edges::rich, y -> y.put(0, 0), IMPOSSIBLE);
        refused("a full one", () -> rich().fill(3, 3), y -> y.put(3, 0), IMPOSSIBLE);
        refused("one whose free rows are those of words that wait", () -> rich().fill(5, 3),
            y -> y.put(5, 0), IMPOSSIBLE);
        change("the last place", () -> rich().fill(3, 2), y -> y.put(3, 0), 9);
        refused("a dead one, a value out of range", Edges::rich, y -> y.put(1, 256), INVALID);
        refused("a godfather, a value out of range", Edges::rich, y -> y.put(0, -1), INVALID);
        refused("a full one, a value out of range", () -> rich().fill(3, 3), y -> y.put(3, 256), INVALID);
        refused("a 25th word", Edges::allWords, y -> y.put(4, 0), LIMIT);
        refused("a 25th word for a full one", Edges::allWords, y -> y.put(0, 0), IMPOSSIBLE);
        refused("a 25th word for a godfather", () -> allWords().electing(4), y -> y.put(4, 0), IMPOSSIBLE);
        refused("a 25th word for a dead one", () -> allWords().killing(4), y -> y.put(4, 0), IMPOSSIBLE);
        refused("a 25th word out of range", Edges::allWords, y -> y.put(4, 256), INVALID);
        refused("a 25th word for no chip", Edges::allWords, y -> y.put(5, 0), INVALID);
        change("the 24th word", () -> Counted.of(0, 0, 0, 0).fill(0, 6).fill(1, 6).fill(2, 6).fill(3, 5),
            y -> y.put(3, 0), 23);
        change("the first word", () -> Counted.of(0), y -> y.put(0, 0), 0);
    }

    private static void write() {
        says(9, "Gives a word another value.");
        Counted of = Counted.of(0, 0, 1).puts(0, 1, 2).puts(1, 4).puts(2, 8);
        due("write(1, 200)", of.write(1, 200), 2);
        int[] values = {1, 200, 4, 8};
        for (int word = 0; word < 4; word++) {
            due("read(" + word + ")", of.read(word), values[word]);
        }
        due("its chip", of.wordOf(1, 1), 0);
        due("its row", of.wordOf(1, 2), 1);
        due("words", of.count(2), 4);
        numberOfAWord(9, "`word`: number of the word", (y, word) -> y.write(word, 0));

        says(9, "`value`: 0 to 255");
        for (int each : new int[] {0, 1, 127, 128, 254, 255}) {
            int value = each;
            change("write(3, " + value + ")", Edges::rich, y -> y.write(3, value), 44);
            Counted x = rich();
            x.write(3, value);
            due("read", x.read(3), value);
            due("the sum", x.rowOf(0, 0), value ^ 11);
            due("the word that waits in this row", x.read(0), 11);
        }
        refusedFor("value", Edges::rich, (y, value) -> y.write(3, value), INVALID, -1, 256, LEAST, MOST);

        says(9, "Returns its value before; INVALID_ARGUMENT if an argument is out of range; NOT_POSSIBLE if it is not"
            + " kept.");
        refused("one that waits", Edges::rich, y -> y.write(0, 1), IMPOSSIBLE);
        refused("a lost one", Edges::rich, y -> y.write(6, 1), IMPOSSIBLE);
        refused("one that waits, a value out of range", Edges::rich, y -> y.write(0, 256), INVALID);
        refused("a lost one, a value out of range", Edges::rich, y -> y.write(6, -1), INVALID);
        change("the same value", Edges::rich, y -> y.write(3, 44), 44);
        Counted x = Counted.of(0).puts(0, 255);
        due("255 before", x.write(0, 0), 255);
        due("0 before", x.write(0, 9), 0);
        due("9 before", x.write(0, 255), 9);
        due("the 24th word", allWords().write(23, 9), 6);
        due("one that was raised", waiting(1, 0).ticking(1).write(0, 5), 10);
        due("one of a bare row", Counted.of(0, 0).electing(0).breaking(0, 0).puts(1, 3).write(0, 5), 3);
    }

    private static void read() {
        says(10, "Returns the value of a word, whether it is kept or waits.");
        int[] values = {11, 22, 33, 44, 55, 66, MISSING};
        Counted x = rich();
        for (int word = 0; word < 7; word++) {
            due("read(" + word + ")", x.read(word), values[word]);
        }
        Counted sum = Counted.of(0, 0, 0, 0).electing(0).puts(1, 255).puts(2, 1).puts(3, 128).killing(1);
        sum.write(1, 77);
        sum.write(2, 0);
        due("one that waits, while others of its row are written", sum.read(0), 255);
        sum.ticking(1);
        due("behind it is raised", sum.read(0), 255);
        due("one of the value 0 that waits", Counted.of(0, 0).electing(0).puts(1, 0).killing(1).read(0), 0);
        due("one of the value 0 that is kept", Counted.of(0).puts(0, 0).read(0), 0);

        numberOfAWord(10, "`word`: number of the word", Counted::read);

        says(10, "Returns the value; INVALID_ARGUMENT; NOT_FOUND if it is lost.");
        refused("a lost one", Edges::rich, y -> y.read(6), MISSING);
        due("lost by a break", Counted.of(0).puts(0, 5).breaking(0, 0).read(0), MISSING);
        due("lost by its godfather's death", waiting(1).killing(0).read(0), MISSING);
        due("lost by its godfather's break", waiting(2).breaking(0, 1).read(1), MISSING);
        due("lost by a second death", Counted.of(0, 0, 0).electing(0).puts(1, 1).puts(2, 2).killing(1, 2).read(0), MISSING);
        changesNothing("read(0)", Edges::rich, y -> y.read(0));
    }

    private static void carry() {
        says(11, "Carries a word to the lowest row of another chip that is a place for it.");
        Counted x = Counted.of(0, 1, 2).puts(0, 1, 2, 3).puts(1, 4, 5, 6).carrying(4, 2);
        due("the gap in row 1", x.carry(2, 1), 1);
        due("then row 3", x.carry(1, 1), 3);
        due("its family", x.wordOf(1, 3), 1);
        due("its value", x.read(1), 2);
        due("no tick raised it", x.wordOf(1, 5), 0);
        due("its row is free", x.rowOf(0, 1), MISSING);
        due("the last row", Counted.of(0, 1).puts(0, 1).breaking(1, 0, 1, 2, 3, 4).carry(0, 1), 5);
        due("not where a word waits", rich().carry(4, 5), 3);
        due("not to a broken row", Counted.of(0, 1).puts(0, 1).breaking(1, 0).carry(0, 1), 1);
        due("behind others of its family", Counted.of(0, 0).puts(0, 1, 2).puts(1, 3).carry(1, 1), 1);

        numberOfAWord(11, "`word`: number of the word", (y, word) -> y.carry(word, 0));
        numberOfAChip(11, "`chip`: number of the chip", (y, chip) -> y.carry(y.count(2) == 7 ? 3 : 0, chip));

        says(11, "Returns the row; INVALID_ARGUMENT if there is no such word or chip; NOT_POSSIBLE if the word is not"
            + " kept, or it is kept by this chip, or the chip is dead, is a godfather, or has no place.");
        refused("one that waits", Edges::rich, y -> y.carry(0, 5), IMPOSSIBLE);
        refused("a lost one", Edges::rich, y -> y.carry(6, 5), IMPOSSIBLE);
        refused("one that is kept by this chip", Edges::rich, y -> y.carry(4, 3), IMPOSSIBLE);
        refused("to a dead chip", Edges::rich, y -> y.carry(4, 1), IMPOSSIBLE);
        refused("to the dead chip that kept it", Edges::rich, y -> y.carry(6, 4), IMPOSSIBLE);
        refused("to a godfather", Edges::rich, y -> y.carry(4, 0), IMPOSSIBLE);
        refused("to a full chip", () -> rich().fill(2, 3), y -> y.carry(4, 2), IMPOSSIBLE);
        refused("one that waits, to no chip", Edges::rich, y -> y.carry(0, 6), INVALID);
        refused("a lost one, to no chip", Edges::rich, y -> y.carry(6, -1), INVALID);
        refused("no word, to a dead chip", Edges::rich, y -> y.carry(7, 1), INVALID);
        refused("no word, to no chip", Edges::rich, y -> y.carry(-1, -1), INVALID);
        change("to the last place of a chip", () -> rich().fill(2, 2), y -> y.carry(4, 2), 5);
        change("to a chip without words", Edges::rich, y -> y.carry(3, 5), 3);
        change("the 24th word", Edges::allWords, y -> y.carry(23, 4), 0);
        due("a word comes back to its row", Counted.of(0, 1).puts(0, 1, 2).carrying(0, 1).carry(0, 0), 0);
    }

    private static void emptyTo() {
        says(12, "Empties a chip: its words, by their rows, are carried to other chips, each to that to which it would"
            + " come if it was raised (other than this one).");
        due("a chip without words", Counted.of(0).empty(0), 0);
        due("a chip without words, and no place beside it", Counted.of(0, 1).fill(1, 6).empty(0), 0);
        due("one whose rows are all broken", Counted.of(0).breaking(0, 0, 1, 2, 3, 4, 5).empty(0), 0);
        for (int words = 1; words <= 6; words++) {
            Counted x = Counted.of(0, 1).fill(0, words);
            due("words that are carried", x.empty(0), words);
            due("words of it then", x.chipOf(0, 3), 0);
            due("words of the other", x.chipOf(1, 3), words);
            due("no tick raised them", x.count(7), 0);
        }
        Counted own = Counted.of(0, 0, 1).fill(0, 3).fill(1, 5);
        own.empty(0);
        due("one place of the own family", own.wordOf(0, 1), 1);
        due("then another one's", own.wordOf(1, 1) * 10 + own.wordOf(2, 1), 22);
        due("by rows", own.wordOf(1, 2) * 10 + own.wordOf(2, 2), 1);
        Counted most = Counted.of(0, 0, 0).puts(2, 9).puts(0, 1, 2, 3);
        most.empty(0);
        due("the most places, then the lowest number of several, then the most places",
            most.wordOf(1, 1) * 100 + most.wordOf(2, 1) * 10 + most.wordOf(3, 1), 112);
        Counted rows = Counted.of(0, 0, 1).puts(0, 1, 2).carrying(0, 1).puts(0, 3).fill(1, 4);
        rows.empty(0);
        due("row 0 first, though its word came later", rows.wordOf(2, 1), 1);
        due("row 1 then", rows.wordOf(1, 1), 2);
        // Its own rows are most places, and are no place for it.
        Counted few = Counted.of(0, 0).puts(0, 1).fill(1, 5);
        due("never to itself", few.empty(0), 1);
        due("its chip", few.wordOf(0, 1), 1);
        Counted beside = rich().adding(2, 0);
        due("not where a word waits", beside.empty(2), 1);
        due("its row on a chip of its family", beside.wordOf(3, 1) * 10 + beside.wordOf(3, 2), 53);
    }

    private static void emptyRefused() {
        numberOfAChip(12, "`chip`: number of the chip", Counted::empty);

        says(12, "Returns how many words were carried; INVALID_ARGUMENT; NOT_POSSIBLE if it is dead or a godfather, or"
            + " there is no place for one of them when its turn comes.");
        refused("a dead one", Edges::rich, y -> y.empty(1), IMPOSSIBLE);
        refused("a dead one of a family without godfather", Edges::rich, y -> y.empty(4), IMPOSSIBLE);
        refused("a godfather", Edges::rich, y -> y.empty(0), IMPOSSIBLE);
        refused("no place for the first one", () -> Counted.of(0, 1).fill(0, 2).fill(1, 6), y -> y.empty(0), IMPOSSIBLE);
        refused("no place for the second one", () -> Counted.of(0, 1).fill(0, 2).fill(1, 5), y -> y.empty(0), IMPOSSIBLE);
        refused("no place for the sixth one", () -> Counted.of(0, 1, 2).fill(0, 6).fill(1, 4).fill(2, 3),
            y -> y.empty(0), IMPOSSIBLE);
        refused("no other chip", () -> Counted.of(0).fill(0, 1), y -> y.empty(0), IMPOSSIBLE);
        refused("but a godfather", () -> Counted.of(0, 0).electing(1).fill(0, 1), y -> y.empty(0), IMPOSSIBLE);
        refused("but a dead one", () -> Counted.of(0, 0).killing(1).fill(0, 1), y -> y.empty(0), IMPOSSIBLE);
        refused("but broken rows", () -> Counted.of(0, 0).breaking(1, 0, 1, 2, 3, 4, 5).fill(0, 1),
            y -> y.empty(0), IMPOSSIBLE);
        refused("but a row where a word waits", () -> Counted.of(0, 0, 0, 0).electing(0).fill(1, 1).fill(2, 6)
            .fill(3, 5).killing(1).breaking(3, 5), y -> y.empty(3), IMPOSSIBLE);
        change("a place for each of two", () -> Counted.of(0, 1).fill(0, 2).fill(1, 4), y -> y.empty(0), 2);
        change("a place for each of six", () -> Counted.of(0, 1, 2).fill(0, 6).fill(1, 3).fill(2, 3), y -> y.empty(0), 6);
        change("one without words", Edges::rich, y -> y.empty(5), 0);
        change("one that may be full again", Edges::allWords, y -> y.empty(3), 6);
    }

    private static void wordOf() {
        says(13, "Returns something of a word.");
        for (int each = 0; each <= 5; each++) {
            int what = each;
            for (int word = 0; word < 7; word += 3) {
                int asked = word;
                changesNothing("wordOf(" + word + ", " + what + ")", Edges::rich, y -> y.wordOf(asked, what));
            }
        }
        numberOfAWord(13, "`word`: number of the word", (y, word) -> y.wordOf(word, 0));

        says(13, "`what`: 0: 0 if it is kept, 1 if it waits, 2 if it is lost; 1: the chip that keeps it; 2: its row; 3:"
            + " the family to whose row it belongs; 4: how many words are ahead of it in the queue; 5: how often it was"
            + " raised by ticks so far");
        int[][] due = {
            {1, MISSING, 0, 0, 0, 0}, {1, MISSING, 1, 0, 1, 0}, {1, MISSING, 2, 0, 2, 0}, {0, 2, 0, 0, MISSING, 0},
            {0, 3, 0, 1, MISSING, 0}, {0, 3, 1, 1, MISSING, 0}, {2, MISSING, MISSING, MISSING, MISSING, 0}};
        Counted x = rich();
        for (int word = 0; word < 7; word++) {
            for (int what = 0; what <= 5; what++) {
                due("wordOf(" + word + ", " + what + ")", x.wordOf(word, what), due[word][what]);
            }
        }
        Counted six = waiting(6);
        due("the last of six", six.wordOf(5, 2) * 10 + six.wordOf(5, 4), 55);
        due("the last row of the last chip", Counted.of(0, 0, 0, 0, 0, 0, 0, 2).fill(7, 6).wordOf(5, 1), 7);
        due("the last family", Counted.of(2).fill(0, 1).wordOf(0, 3), 2);
        Counted far = waiting(1, 2).ticking(1);
        due("the family to which it came", far.wordOf(0, 3), 2);
        // It is raised to chip 2, then to chip 3, and so on.
        Counted often = waiting(1, 0, 0, 0, 0, 0, 0);
        for (int chip = 2; chip < 8; chip++) {
            due("raised so often", often.wordOf(0, 5), chip - 2);
            due("tick(1)", often.tick(1), 1);
            due("its chip", often.wordOf(0, 1), chip);
            often.killing(chip);
        }
        due("raised so often, and waits", often.wordOf(0, 5) * 10 + often.wordOf(0, 0), 61);
        due("count(7)", often.count(7), 6);
        often.killing(0);
        due("raised so often, and is lost", often.wordOf(0, 5) * 10 + often.wordOf(0, 0), 62);
        due("count(7)", often.count(7), 6);

        says(13, "Returns the number; INVALID_ARGUMENT if an argument is out of range; NOT_FOUND for 1 if it is not"
            + " kept, for 2 and 3 if it is lost, for 4 if it does not wait.");
        refusedFor("what of a kept one", Edges::rich, (y, what) -> y.wordOf(3, what), INVALID, -1, 6, LEAST, MOST);
        refusedFor("what of one that waits", Edges::rich, (y, what) -> y.wordOf(0, what), INVALID, -1, 6);
        refusedFor("what of a lost one", Edges::rich, (y, what) -> y.wordOf(6, what), INVALID, -1, 6, LEAST, MOST);
        refusedFor("what of no word", Edges::rich, (y, what) -> y.wordOf(7, what), INVALID, -1, 0, 5, 6);
        refusedFor("what of one that waits", Edges::rich, (y, what) -> y.wordOf(1, what), MISSING, 1);
        refusedFor("what of a lost one", Edges::rich, (y, what) -> y.wordOf(6, what), MISSING, 1, 2, 3, 4);
        refusedFor("what of a kept one", Edges::rich, (y, what) -> y.wordOf(5, what), MISSING, 4);
    }

    static void all() {
        put();
        write();
        read();
        carry();
        emptyTo();
        emptyRefused();
        wordOf();
    }
}
