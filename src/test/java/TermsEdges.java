/** The boundaries that the document's terms name, but for texts and changes: chips, rows, words, raising. */
final class TermsEdges extends Edges {

    private static void lastCall() {
        says(0, "An object is used for at most 512 calls after it has been made; what later calls answer is free.");
        Counted x = Counted.of(0, 0).electing(0).puts(1, 0);
        int last = 0;
        while (x.calls() < 510) {
            int next = (last + 7) % 256;
            due("write", x.write(0, next), last);
            last = next;
        }
        due("the 511th call", x.read(0), last);
        due("the 512th call", x.rowOf(0, 0), last);
        due("calls", x.calls(), 512);
    }

    private static void time() {
        says(0, "Time is told in ticks, 0 at first.");
        due("count(6)", new Counted().count(6), 0);
        due("count(6) of another object behind ticks", Counted.of(0).ticking(100).count(6), 100);
        due("count(6) behind all other changes",
            Counted.of(0, 1).puts(0, 1).carrying(0, 1).breaking(0, 0).electing(0).killing(1).count(6), 0);
        due("count(6)", new Counted().ticking(1).count(6), 1);
    }

    private static void sets() {
        says(0, "Sets are told as bits: bit k is for number k.");
        for (int row = 0; row < 6; row++) {
            due("broken rows", Counted.of(0).breaking(0, row).chipOf(0, 5), 1 << row);
            due("guarded rows", Counted.of(0).breaking(0, row).electing(0).familyOf(0, 4), 63 ^ 1 << row);
        }
        for (int chip = 0; chip < 8; chip++) {
            due("chips that live", eightOf(1).killing(chip).familyOf(1, 1), 255 ^ 1 << chip);
            due("safe chips", eightOf(1).puts(chip, 1).safe(), 255 ^ 1 << chip);
        }
        due("no broken rows", Counted.of(0).chipOf(0, 5), 0);
        due("no guarded rows", Counted.of(0).familyOf(0, 4), 0);
        due("no chips", Counted.of(0).familyOf(1, 1), 0);
    }

    // ---- chips and rows

    private static Counted eightOf(int family) {
        return Counted.of(family, family, family, family, family, family, family, family);
    }

    private static void chips() {
        says(0, "There are at most 8 chips, numbered from 0, each of a family, 0 to 2.");
        for (int each = 0; each < 3; each++) {
            int family = each;
            Counted x = new Counted();
            for (int chip = 0; chip < 8; chip++) {
                due("no chip with the next number", x.chipOf(chip, 0), INVALID);
                due("chip " + chip, x.chip(family, 0), chip);
                due("its family", x.chipOf(chip, 0), family);
            }
            due("count(0)", x.count(0), 8);
            refused("a ninth chip", () -> eightOf(family), y -> y.chip(family, 0), LIMIT);
        }
        refused("a ninth chip beside dead ones", () -> eightOf(0).killing(0, 1, 2, 3, 4, 5, 6, 7),
            y -> y.chip(1, 0), LIMIT);
        change("the eighth chip", () -> Counted.of(0, 0, 0, 0, 0, 0, 0), y -> y.chip(2, 2), 7);
        Counted again = eightOf(0).undoing(1);
        due("the eighth chip behind undo()", again.chip(2, 0), 7);
        due("its family", again.chipOf(7, 0), 2);
    }

    private static void livesOrIsDead() {
        says(0, "A chip lives or is dead.");
        due("a new chip", Counted.of(0).chipOf(0, 1), 1);
        due("one whose rows are all broken", Counted.of(0).breaking(0, 0, 1, 2, 3, 4, 5).chipOf(0, 1), 1);
        due("a godfather", Counted.of(0).electing(0).chipOf(0, 1), 1);
        Counted empty = Counted.of(0, 1).fill(0, 6);
        due("empty(0)", empty.empty(0), 6);
        due("one that was emptied", empty.chipOf(0, 1), 1);
        // A dead chip stays dead, whatever is done behind its death but undo().
        Counted x = Counted.of(0, 0, 0).electing(0).fill(1, 6).killing(1);
        x.ticking(100);
        due("behind ticks", x.chipOf(1, 1), 0);
        x.killing(0).adding(0, 2).electing(3);
        due("behind its godfather's death and an election", x.chipOf(1, 1), 0);
        due("its family's chips that live", x.familyOf(0, 1), 4 + 8);
        Counted y = Counted.of(0, 0).killing(1);
        for (String order : new String[] {"k1;", "e1;", "v1;", "p1,0;", "b1,0;"}) {
            due(order, y.text(order).play(), IMPOSSIBLE);
            due("it is dead", y.chipOf(1, 1), 0);
        }
        due("undo()", y.undo() * 10 + y.chipOf(1, 1), 21);
    }

    private static void wholeOrBroken() {
        says(0, "A row of a chip is whole or broken;");
        for (int set = 0; set < 64; set++) {
            Counted x = Counted.of(0, 0);
            for (int row = 0; row < 6; row++) {
                if ((set >> row & 1) == 1) {
                    x.breaking(0, row);
                }
            }
            due("the broken rows", x.chipOf(0, 5), set);
            due("the places", x.chipOf(0, 4), 6 - Integer.bitCount(set));
            for (int row = 0; row < 6; row++) {
                due("row " + row, x.rowOf(0, row), (set >> row & 1) == 1 ? IMPOSSIBLE : MISSING);
            }
            due("the rows of another chip", x.chipOf(1, 5), 0);
            due("guarded rows", x.elect(0), 6 - Integer.bitCount(set));
            due("the set of them", x.familyOf(0, 4), 63 - set);
        }
    }

    private static void rows() {
        says(0, "It has 6 rows, numbered from 0, and as many spare rows as were told, 0 to 2.");
        Counted x = Counted.of(0);
        due("rowOf(0, 5) without words", x.rowOf(0, 5), MISSING);
        due("rowOf(0, 6)", x.rowOf(0, 6), INVALID);
        due("rowOf(0, -1)", x.rowOf(0, -1), INVALID);
        for (int row = 0; row < 6; row++) {
            due("word " + row, x.put(0, row), row);
            due("its row", x.wordOf(row, 2), row);
            due("the row's word", x.rowOf(0, row), row);
        }
        refused("a seventh word", () -> Counted.of(0).fill(0, 6), y -> y.put(0, 1), IMPOSSIBLE);
        Counted broken = Counted.of(0);
        for (int row = 0; row < 6; row++) {
            due("breaks(0, " + row + ")", broken.breaks(0, row), 0);
            due("broken rows", broken.chipOf(0, 5), (2 << row) - 1);
            due("places", broken.chipOf(0, 4), 5 - row);
        }
        for (int spares = 0; spares <= 2; spares++) {
            Counted y = new Counted().adding(0, spares);
            for (int left = spares; left > 0; left--) {
                due("spare rows left", y.chipOf(0, 6), left);
                due("breaks(0, 5)", y.breaks(0, 5), 0);
                due("no row is broken", y.chipOf(0, 5), 0);
            }
            due("no spare row is left", y.chipOf(0, 6), 0);
            due("breaks(0, 5)", y.breaks(0, 5), 0);
            due("the row is broken", y.chipOf(0, 5), 32);
            due("no spare row is left", y.chipOf(0, 6), 0);
        }
    }

    private static void oneWordInARow() {
        says(0, "in a whole row of a living chip that is no godfather one word can be kept.");
        Counted x = Counted.of(0).breaking(0, 0, 2);
        due("the first whole row", x.wordOf(x.put(0, 1), 2), 1);
        due("the next whole row", x.wordOf(x.put(0, 2), 2), 3);
        due("the next whole row", x.wordOf(x.put(0, 3), 2), 4);
        due("the last whole row", x.wordOf(x.put(0, 4), 2), 5);
        due("no whole row any more", x.put(0, 5), IMPOSSIBLE);
        due("one word in each of them", x.chipOf(0, 3), 4);
        refused("a word for a dead chip", () -> Counted.of(0, 0).killing(0), y -> y.put(0, 1), IMPOSSIBLE);
        refused("a word for a godfather", () -> Counted.of(0, 0).electing(0), y -> y.put(0, 1), IMPOSSIBLE);
        refused("a word for broken rows alone", () -> Counted.of(0, 0).breaking(0, 0, 1, 2, 3, 4, 5),
            y -> y.put(0, 1), IMPOSSIBLE);
        Counted last = Counted.of(0).breaking(0, 0, 1, 2, 3, 4);
        due("a word for the one whole row", last.wordOf(last.put(0, 1), 2), 5);
    }

    private static void places() {
        says(0, "Such a row is a place if it keeps none, and no word waits (see below) in the row of this"
            + " number of its family.");
        Counted x = Counted.of(0, 0, 0, 1).electing(0).puts(1, 5);
        due("a row that keeps a word", x.chipOf(1, 4), 5);
        due("another chip's row of this number", x.chipOf(2, 4), 6);
        due("a godfather", x.chipOf(0, 4), 0);
        x.killing(1);
        due("a dead chip", x.chipOf(1, 4), 0);
        due("a row in which a word waits", x.chipOf(2, 4), 5);
        due("this row of another family", x.chipOf(3, 4), 6);
        due("the lowest place of the family", x.wordOf(x.put(2, 0), 2), 1);
        due("the lowest place of another family", x.wordOf(x.put(3, 0), 2), 0);
        due("count(9)", x.count(9), 4 + 5);
        x.ticking(1);
        due("behind the word is raised", x.chipOf(2, 4), 4);
        Counted all = waiting(6, 0, 1);
        due("words wait in all six rows", all.chipOf(2, 4), 0);
        due("put where words wait in all rows", all.put(2, 1), IMPOSSIBLE);
        due("places of another family", all.chipOf(3, 4), 6);
        due("words wait in five rows", waiting(5, 0).chipOf(2, 4), 1);
        due("the sixth one", waiting(5, 0).puts(2, 7).rowOf(2, 5), 5);
        Counted kept = Counted.of(0, 0, 0).electing(0).puts(2, 1, 2).puts(1, 3).killing(1);
        due("a word that waits where another is kept takes no second place", kept.chipOf(2, 4), 4);
    }

    private static void oneGodfather() {
        says(0, "A family has one godfather at most, which lives; it keeps no words.");
        refused("a second godfather", () -> Counted.of(0, 0).electing(0), x -> x.elect(1), IMPOSSIBLE);
        refused("the godfather once more", () -> Counted.of(0, 0).electing(0), x -> x.elect(0), IMPOSSIBLE);
        Counted three = Counted.of(0, 1, 2).electing(0).electing(1);
        due("a third family's godfather", three.elect(2), 6);
        due("count(8)", three.count(8), 3);
        three.killing(1);
        due("count(8) behind a death", three.count(8), 2);
        due("the dead one is none", three.chipOf(1, 2), 0);
        due("its family has none", three.familyOf(1, 0), MISSING);
        due("the next one", three.adding(1, 0).elect(3), 6);
        due("familyOf(1, 0)", three.familyOf(1, 0), 3);
        refused("a dead godfather", () -> Counted.of(0, 0).killing(0), x -> x.elect(0), IMPOSSIBLE);
        refused("one that keeps a word", () -> Counted.of(0, 0).puts(0, 1), x -> x.elect(0), IMPOSSIBLE);
        refused("a word that is put", () -> Counted.of(0, 0).electing(0), x -> x.put(0, 1), IMPOSSIBLE);
        refused("a word that is carried", () -> Counted.of(0, 0).electing(0).puts(1, 1),
            x -> x.carry(0, 0), IMPOSSIBLE);
        refused("a word of a chip that is emptied", () -> Counted.of(0, 0).electing(0).puts(1, 1),
            x -> x.empty(1), IMPOSSIBLE);
        Counted raised = waiting(1);
        due("a word that is raised", raised.tick(100), 0);
        due("familyOf(0, 3)", raised.familyOf(0, 3), 0);
        due("chipOf(0, 3)", raised.chipOf(0, 3), 0);
        due("a word that is raised to another family's", waiting(1, 1).electing(2).tick(1), 0);
    }

    private static void sums() {
        says(0, "In each of its rows that is whole it keeps the sum of the words of its family in the row of"
            + " this number: those that its chips keep there, and the one that waits there, all of them, bit"
            + " by bit exclusive or.");
        Counted x = eightOf(0).electing(7);
        due("the sum of none", x.rowOf(7, 0), 0);
        for (int chip = 0; chip < 7; chip++) {
            x.puts(chip, 1 << chip);
            due("the sum of " + (chip + 1), x.rowOf(7, 0), (2 << chip) - 1);
        }
        x.write(0, 255);
        due("the sum of seven", x.rowOf(7, 0), 255 ^ 126);
        x.killing(6);
        due("with the one that waits", x.rowOf(7, 0), 255 ^ 126);
        x.killing(5);
        due("without the two that are lost", x.rowOf(7, 0), 255 ^ 30);
        due("the sum of another row", x.rowOf(7, 1), 0);

        Counted two = Counted.of(0, 0, 0, 1).puts(0, 200, 3).puts(1, 200).puts(3, 255).electing(2);
        due("two of the same value", two.rowOf(2, 0), 0);
        due("two rows", two.rowOf(2, 1), 3);
        two.carry(0, 3);
        due("one is carried to another family", two.rowOf(2, 0), 200);
        two.empty(1);
        due("the other comes to chip 0", two.rowOf(0, 0), 2);
        due("and is in the sum of its row", two.rowOf(2, 0), 200);
        two.breaking(2, 0);
        due("no sum in a broken row", two.rowOf(2, 0), IMPOSSIBLE);
        due("the sum of a row beside it", two.rowOf(2, 1), 3);
        Counted raised = Counted.of(0, 0, 1, 1).electing(0).electing(2).puts(1, 99).killing(1);
        due("the family in which it waits", raised.rowOf(0, 0) * 1000 + raised.rowOf(2, 0), 99000);
        raised.ticking(1);
        due("the family to which it came", raised.rowOf(0, 0) * 1000 + raised.rowOf(2, 0), 99);
    }

    private static void guardedRows() {
        says(0, "A row of a family is guarded if the family has a godfather and this row of the godfather is"
            + " whole; otherwise it is bare.");
        Counted x = new Counted().adding(0, 1).adding(0, 0).adding(1, 0);
        x.puts(1, 1, 2);
        due("without a godfather", x.familyOf(0, 4), 0);
        due("words in bare rows", x.familyOf(0, 5), 2);
        x.electing(0);
        due("with a godfather", x.familyOf(0, 4), 63);
        due("words in bare rows", x.familyOf(0, 5), 0);
        due("another family", x.familyOf(1, 4), 0);
        x.breaking(0, 1);
        due("a spare row stands in", x.familyOf(0, 4), 63);
        x.breaking(0, 1);
        due("a broken row of the godfather", x.familyOf(0, 4), 61);
        due("words in bare rows", x.familyOf(0, 5), 1);
        x.breaking(1, 5);
        due("a broken row of another chip", x.familyOf(0, 4), 61);
        x.breaking(0, 0, 2, 3, 4, 5);
        due("all rows of the godfather are broken", x.familyOf(0, 4), 0);
        due("it is the godfather still", x.familyOf(0, 0), 0);
        due("no row is guarded", x.kill(1), 2);
        due("elect of one whose rows are all broken", Counted.of(2).breaking(0, 0, 1, 2, 3, 4, 5).elect(0), 0);
        due("elect of one with one whole row", Counted.of(2).breaking(0, 0, 1, 2, 3, 4).elect(0), 1);
        due("behind the godfather's death", Counted.of(2, 2).electing(0).killing(0).familyOf(2, 4), 0);
    }

    // ---- words

    private static void words() {
        says(0, "There are at most 24 words, numbered from 0 in the order in which they came, lost ones, too;"
            + " each has a value, 0 to 255.");
        Counted x = Counted.of(0, 1, 2, 0, 1);
        for (int word = 0; word < 24; word++) {
            due("no word with the next number", x.read(word), INVALID);
            due("put", x.put(word % 5, word + 232), word);
            due("read", x.read(word), word + 232);
        }
        due("count(2)", x.count(2), 24);
        refused("a 25th word", Edges::allWords, y -> y.put(4, 0), LIMIT);
        refused("a 25th word beside lost ones", () -> allWords().killing(0, 1, 2, 3), y -> y.put(4, 0), LIMIT);
        change("the 24th word beside lost ones", () -> Counted.of(0, 0, 0, 0, 0).fill(0, 6).fill(1, 6)
            .fill(2, 6).fill(3, 5).killing(0, 1, 2, 3), y -> y.put(4, 0), 23);
        due("the 24th word behind undo()", allWords().undoing(1).put(4, 0), 23);
        due("a lost word keeps its number", Counted.of(0, 1).puts(0, 1).killing(0).put(1, 2), 1);
        for (int value : new int[] {0, 1, 254, 255}) {
            due("the value " + value, Counted.of(0).puts(0, value).read(0), value);
        }
        refusedFor("put", () -> Counted.of(0, 0), (y, value) -> y.put(0, value), INVALID, -1, 256);
        refusedFor("write", () -> Counted.of(0, 0).puts(0, 7), (y, value) -> y.write(0, value), INVALID, -1, 256);
    }

    private static void fates() {
        says(0, "A word is kept (in a row of a chip), or it waits, or it is lost.");
        Counted x = rich();
        int[] fates = {1, 1, 1, 0, 0, 0, 2};
        for (int word = 0; word < 7; word++) {
            due("word " + word, x.wordOf(word, 0), fates[word]);
        }
        due("kept, waiting and lost ones", x.count(3) * 100 + x.count(4) * 10 + x.count(5), 331);
        Counted y = waiting(1, 0);
        due("it waits", y.wordOf(0, 0), 1);
        y.ticking(1);
        due("it is kept again", y.wordOf(0, 0), 0);
        y.killing(0);
        due("it is kept still", y.wordOf(0, 0), 0);
        y.killing(2);
        due("it is lost", y.wordOf(0, 0), 2);
    }

    private static void valueOfOneThatWaits() {
        says(0, "A word that waits is still a word of the row of the family in which it was: its value is known by the sum of"
            + " this row and the words that are kept in it.");
        for (int value : new int[] {0, 1, 128, 255}) {
            Counted x = Counted.of(0, 0, 0, 0).electing(0).puts(1, value).puts(2, 255).puts(3, 1).killing(1);
            due("its value", x.read(0), value);
            due("its row", x.wordOf(0, 2), 0);
            due("its family", x.wordOf(0, 3), 0);
            due("the sum", x.rowOf(0, 0), value ^ 254);
            x.write(1, 7);
            x.carry(2, 2);
            due("its value when others are written and carried", x.read(0), value);
            due("the sum", x.rowOf(0, 0), value ^ 7);
            x.ticking(1);
            due("its value behind it is raised", x.read(0), value);
        }
        due("without others in its row", waiting(6).read(5), 15);
    }

    private static void oneWaitsInARow() {
        says(0, "There is never more than one word that waits in a row of a family.");
        Counted x = Counted.of(0, 0, 0, 0, 0).electing(0);
        for (int chip = 1; chip < 5; chip++) {
            x.puts(chip, chip);
        }
        due("a first death", x.kill(1), 0);
        due("one waits", x.familyOf(0, 2), 1);
        due("a second death", x.kill(2), 2);
        due("none waits", x.familyOf(0, 2), 0);
        due("a third death", x.kill(3), 0);
        due("one waits", x.familyOf(0, 2), 1);
        due("a fourth death", x.kill(4), 2);
        due("none waits", x.familyOf(0, 2), 0);
        Counted y = Counted.of(0, 0, 1, 1, 2, 2).electing(0).electing(2).electing(4).fill(1, 6).fill(3, 6).fill(5, 6);
        due("each row of each family", y.kill(1) + y.kill(3) + y.kill(5), 0);
        due("so many wait at most", y.count(4), 18);
        due("six in each", y.familyOf(0, 2) * 100 + y.familyOf(1, 2) * 10 + y.familyOf(2, 2), 666);
        due("none is raised", y.tick(100), 0);
    }

    private static void waitsOrIsLost() {
        says(0, "A word that can be kept by its chip no more (as the chip has died, or the row broke) waits, if"
            + " its row of the family is guarded and no other word waits in this row. If the row is bare, it is"
            + " lost; if another word waits in this row, both are lost.");
        due("a death, no godfather", Counted.of(0, 0).puts(1, 1).kill(1), 1);
        due("a break, no godfather", Counted.of(0, 0).puts(1, 1).breaks(1, 0), 1);
        due("another family's godfather", Counted.of(1, 0).electing(0).puts(1, 1).kill(1), 1);
        due("a death, a bare row", Counted.of(0, 0).electing(0).breaking(0, 0).puts(1, 1, 2).kill(1), 1);
        due("a break, a bare row", Counted.of(0, 0).electing(0).breaking(0, 0).puts(1, 1, 2).breaks(1, 0), 1);
        due("a break, a guarded row beside it",
            Counted.of(0, 0).electing(0).breaking(0, 0).puts(1, 1, 2).breaks(1, 1), 0);
        Counted dies = Counted.of(0, 0).electing(0).puts(1, 1);
        due("a death, a guarded row", dies.kill(1), 0);
        due("it waits", dies.wordOf(0, 0), 1);
        Counted breaks = Counted.of(0, 0).electing(0).puts(1, 1);
        due("a break, a guarded row", breaks.breaks(1, 0), 0);
        due("it waits", breaks.wordOf(0, 0), 1);
        Counted both = Counted.of(0, 0, 0).electing(0).puts(1, 1).puts(2, 2, 3).killing(1);
        due("a death, another waits in one of two rows", both.kill(2), 2);
        due("the one that waited", both.wordOf(0, 0), 2);
        due("the one that died", both.wordOf(1, 0), 2);
        due("the one of the other row", both.wordOf(2, 0), 1);
        Counted row = Counted.of(0, 0, 0).electing(0).puts(1, 1, 2).puts(2, 3, 4).breaking(1, 0);
        due("a break, another waits in this row", row.breaks(2, 0), 2);
        due("none waits", row.count(4), 0);
        Counted beside = Counted.of(0, 0, 0).electing(0).puts(1, 1, 2).puts(2, 3, 4).breaking(1, 0);
        due("a break, another waits in a row beside it", beside.breaks(2, 1), 0);
        due("two wait", beside.count(4), 2);
        Counted own = Counted.of(0, 0, 1, 1).electing(0).electing(2).puts(1, 1).puts(3, 2).killing(1);
        due("a death, another family's waits in this row", own.kill(3), 0);
        due("two wait", own.count(4), 2);
        due("a death without words", Counted.of(0).kill(0), 0);
        due("a death of six in bare rows", Counted.of(0).fill(0, 6).kill(0), 6);
        due("a death of six where six wait", Counted.of(0, 0, 0).electing(0).fill(1, 6).fill(2, 6)
            .killing(1).kill(2), 12);
        due("a break without a word", Counted.of(0).puts(0, 1).breaks(0, 1), 0);
    }

    private static void queues() {
        says(0, "Each family has a queue of its words that wait: those that come later are behind.");
        Counted x = Counted.of(0, 0, 0, 1, 1).electing(0).electing(3).puts(1, 1, 2, 3).puts(2, 4, 5, 6, 7).puts(4, 8);
        x.breaking(2, 3);
        due("the first one", x.wordOf(6, 4), 0);
        x.killing(4);
        due("another family's first one", x.wordOf(7, 4), 0);
        x.breaking(1, 2).breaking(1, 0).breaking(2, 1);
        due("word 2", x.wordOf(2, 4), 1);
        due("word 0", x.wordOf(0, 4), 2);
        due("word 4", x.wordOf(4, 4), 3);
        due("the first of the queue", x.familyOf(0, 6), 6);
        due("a death that ends two of them", x.kill(2), 4);
        due("word 6 is the first still", x.wordOf(6, 4), 0);
        due("word 4 is behind it", x.wordOf(4, 4), 1);
        due("a death that ends one", x.kill(1), 2);
        due("word 6 is the only one", x.wordOf(6, 4) * 10 + x.familyOf(0, 2), 1);
        due("the first of the queue", x.familyOf(0, 6), 6);
        Counted first = waiting(3).breaking(0, 0);
        due("the first one is lost", first.familyOf(0, 6), 1);
        due("the next one", first.wordOf(1, 4) * 10 + first.wordOf(2, 4), 1);
        Counted last = waiting(3).breaking(0, 2);
        due("the last one is lost", last.familyOf(0, 6) * 10 + last.wordOf(1, 4), 1);
        due("an empty queue", waiting(1).breaking(0, 0).familyOf(0, 6), MISSING);
        Counted moved = waiting(6, 1, 1).electing(3).ticking(6).breaking(2, 0, 5, 1);
        due("words that waited in another family before",
            moved.wordOf(0, 4) * 100 + moved.wordOf(5, 4) * 10 + moved.wordOf(1, 4), 12);
        due("the second of three is lost", moved.breaks(3, 5), 1);
        due("the first one", moved.familyOf(1, 6) * 10 + moved.wordOf(0, 4), 0);
        due("the last one", moved.wordOf(1, 4), 1);
        Counted back = waiting(2, 0, 0).ticking(1).killing(2);
        due("a word that waits again is behind", back.wordOf(0, 4), 1);
        due("the first of the queue", back.familyOf(0, 6), 1);
    }

    private static void byRows() {
        says(0, "If several words come at once, they come by the numbers of their rows.");
        Counted six = waiting(6);
        for (int word = 0; word < 6; word++) {
            due("word " + word, six.wordOf(word, 4), word);
        }
        // Chip 1 keeps word 3 in row 0, 2 in row 1 and 1 in row 2.
        Counted turned = Counted.of(0, 0, 1).electing(0).puts(1, 10, 11, 12).carrying(0, 2).puts(1, 13);
        turned.carrying(1, 2).carrying(2, 2).carrying(2, 1).carrying(1, 1);
        due("rows of words 3, 2, 1", turned.rowOf(1, 0) * 100 + turned.rowOf(1, 1) * 10 + turned.rowOf(1, 2), 321);
        turned.killing(1);
        due("word 3", turned.wordOf(3, 4), 0);
        due("word 2", turned.wordOf(2, 4), 1);
        due("word 1", turned.wordOf(1, 4), 2);
        // Those that wait already stay ahead, be their rows higher.
        Counted late = Counted.of(0, 0, 0).electing(0).fill(1, 6).fill(2, 2).breaking(1, 5).killing(2);
        due("word 5", late.wordOf(5, 4), 0);
        due("word 6", late.wordOf(6, 4), 1);
        due("word 7", late.wordOf(7, 4), 2);
    }

    private static void godfatherDies() {
        says(0, "When the godfather of a family dies, its family has none, and all words that wait in it are"
            + " lost.");
        for (int words = 0; words <= 6; words++) {
            Counted x = waiting(words);
            due("the godfather of " + words, x.kill(0), words);
            due("none waits", x.familyOf(0, 2), 0);
            due("none is first", x.familyOf(0, 6), MISSING);
            due("lost ones", x.count(5), words);
            due("no godfather", x.familyOf(0, 0), MISSING);
            due("no row is guarded", x.familyOf(0, 4), 0);
        }
        for (int family = 0; family < 3; family++) {
            Counted x = eachFamilyWaits().killing(2 * family);
            due("of family " + family, x.familyOf(family, 2), 0);
            due("of the others", x.count(4), 12);
            for (int word = 0; word < 18; word++) {
                boolean lost = word / 6 == family;
                due("word " + word, x.wordOf(word, 4), lost ? MISSING : word % 6);
            }
            x.adding(family, 0);
            due("places of the family", x.chipOf(6, 4), 6);
            x.undoing(2);
            due("the last of the queue behind undo()", x.wordOf(6 * family + 5, 4), 5);
        }
        Counted y = Counted.of(0, 0, 1, 1, 0).electing(0).electing(2).puts(1, 1).puts(3, 2).puts(4, 3, 4).killing(1, 3);
        due("the godfather of family 0", y.kill(0), 1);
        due("another family's word waits", y.wordOf(1, 0), 1);
        due("another family's godfather", y.familyOf(1, 0), 2);
        due("words that are kept stay", y.familyOf(0, 3), 2);
        due("they are bare", y.familyOf(0, 5), 2);
        due("their rows are places of the family no more", y.chipOf(4, 4), 4);
        Counted free = waiting(6, 0);
        due("places while six wait", free.chipOf(2, 4), 0);
        free.killing(0);
        due("places behind that", free.chipOf(2, 4), 6);
    }

    /** Godfathers 0, 2, 4 of families 0, 1, 2; words 0 to 5, 6 to 11 and 12 to 17 wait in them. */
    private static Counted eachFamilyWaits() {
        return Counted.of(0, 0, 1, 1, 2, 2).electing(0).electing(2).electing(4).fill(1, 6).fill(3, 6).fill(5, 6)
            .killing(1, 3, 5);
    }

    private static void godfathersRowBreaks() {
        says(0, "When a row of the godfather breaks for good, the word that waits in this row, if there is one,"
            + " is lost.");
        for (int row = 0; row < 6; row++) {
            Counted x = waiting(5, 0);
            due("row " + row, x.breaks(0, row), row < 5 ? 1 : 0);
            due("those that wait", x.count(4), row < 5 ? 4 : 5);
            due("the row is bare", x.familyOf(0, 4), 63 - (1 << row));
            if (row < 5) {
                due("its word", x.wordOf(row, 0), 2);
            }
            due("a place where none waits", x.chipOf(2, 4), row < 5 ? 2 : 1);
        }
        for (int word = 0; word < 18; word++) {
            int family = word / 6;
            Counted x = eachFamilyWaits().adding(family, 0);
            due("word " + word, x.breaks(2 * family, word % 6), 1);
            due("it is lost", x.wordOf(word, 0), 2);
            due("the others wait", x.count(4), 17);
            due("five of its family", x.familyOf(family, 2), 5);
            due("its row is a place, no other is", x.chipOf(6, 4), 1);
            due("it is the lowest one", x.wordOf(x.put(6, 1), 2), word % 6);
            due("the first of the queue", x.familyOf(family, 6), 6 * family + (word % 6 == 0 ? 1 : 0));
            due("the last of the queue", x.wordOf(6 * family + (word % 6 == 5 ? 4 : 5), 4), 4);
        }
        Counted kept = Counted.of(0, 0, 0).electing(0).puts(1, 1).puts(2, 2).killing(1);
        due("one waits, and one is kept", kept.breaks(0, 0), 1);
        due("the one that is kept stays", kept.wordOf(1, 0), 0);
        due("it is bare", kept.kill(2), 1);
    }

    // ---- broken rows

    private static void spareRows() {
        says(0, "When a row of a living chip breaks, a spare row stands in for it, if the chip has one left,"
            + " which is used up then. The row is whole all the same then, but what was in it is gone:");
        Counted x = new Counted().adding(0, 2).adding(1, 1);
        x.puts(0, 1, 2, 3);
        due("two are left", x.chipOf(0, 6), 2);
        due("a word that no sum tells", x.breaks(0, 1), 1);
        due("one is left", x.chipOf(0, 6), 1);
        due("the row is whole", x.rowOf(0, 1), MISSING);
        due("it is a place", x.chipOf(0, 4), 4);
        due("it keeps another word", x.wordOf(x.put(0, 4), 2), 1);
        due("the same row breaks again", x.breaks(0, 1), 1);
        due("none is left", x.chipOf(0, 6), 0);
        due("the row is whole", x.rowOf(0, 1), MISSING);
        due("the same row once more", x.breaks(0, 1), 0);
        due("the row is broken", x.rowOf(0, 1), IMPOSSIBLE);
        due("another chip's spare row", x.chipOf(1, 6), 1);
        refused("a row that is broken", () -> new Counted().adding(0, 1).breaking(0, 1, 1),
            y -> y.breaks(0, 1), IMPOSSIBLE);
        refused("a row of a dead chip with a spare row", () -> new Counted().adding(0, 1).adding(0, 0).killing(0),
            y -> y.breaks(0, 1), IMPOSSIBLE);
        due("a spare row for an empty row is used up, too", new Counted().adding(0, 1).breaking(0, 0).chipOf(0, 6), 0);
    }

    /** Godfather 0 with spare rows, chips 1 and 2 with one spare row each, three words on each of them. */
    private static Counted withSpares(int godfathersSpares) {
        return new Counted().adding(0, godfathersSpares).adding(0, 1).adding(0, 1).adding(0, 0).electing(0)
            .puts(1, 1, 2, 3).puts(2, 16, 32, 64).puts(3, 128);
    }

    private static void raisedAtOnce() {
        says(0, "A word is raised from the sum at once, and is kept as before, if its row of the family is"
            + " guarded and no other word waits there; if the row is bare, it is lost; if another word waits"
            + " there, both are lost.");
        Counted x = withSpares(0);
        due("a guarded row", x.breaks(1, 1), 0);
        due("its chip", x.wordOf(1, 1), 1);
        due("its row", x.wordOf(1, 2), 1);
        due("its value", x.read(1), 2);
        due("the row's word", x.rowOf(1, 1), 1);
        due("not by a tick", x.wordOf(1, 5), 0);
        due("count(7)", x.count(7), 0);
        due("the sum", x.rowOf(0, 1), 2 ^ 32);
        Counted bare = withSpares(0).breaking(0, 1);
        due("a bare row", bare.breaks(1, 1), 1);
        due("its word", bare.wordOf(1, 0), 2);
        due("the row is whole", bare.rowOf(1, 1), MISSING);
        due("a row beside the bare one", withSpares(0).breaking(0, 1).breaks(1, 0), 0);
        Counted both = withSpares(0).killing(3);
        due("another waits in this row", both.breaks(1, 0), 2);
        due("the one that was kept", both.wordOf(0, 0), 2);
        due("the one that waited", both.wordOf(6, 0), 2);
        due("the third of this row", both.read(3), 16);
        due("the sum of what is kept", both.rowOf(0, 0), 16);
        due("the spare row is used up", both.chipOf(1, 6), 0);
        due("the row is a place", both.chipOf(1, 4), 4);
        Counted beside = withSpares(0).killing(3);
        due("another waits in a row beside it", beside.breaks(1, 1), 0);
        due("it waits still", beside.wordOf(6, 0), 1);
        due("an empty row where a word waits", withSpares(0).carrying(0, 3).killing(3).breaks(1, 0), 0);
        due("the word waits still", withSpares(0).carrying(0, 3).killing(3).breaking(1, 0).count(4), 2);
    }

    private static void sumMadeAnew() {
        says(0, "The sum of a godfather is made anew of the words that are kept; a word that waits in this row"
            + " is lost.");
        Counted x = withSpares(2).killing(3);
        due("the sum", x.rowOf(0, 0), 1 ^ 16 ^ 128);
        due("a row in which a word waits", x.breaks(0, 0), 1);
        due("the sum of what is kept", x.rowOf(0, 0), 1 ^ 16);
        due("the word that waited", x.wordOf(6, 0), 2);
        due("the row is guarded still", x.familyOf(0, 4), 63);
        due("one spare row is left", x.chipOf(0, 6), 1);
        due("the same row, none waits", x.breaks(0, 0), 0);
        due("the sum of what is kept", x.rowOf(0, 0), 1 ^ 16);
        due("none is left", x.chipOf(0, 6), 0);
        due("for good", x.breaks(0, 0), 0);
        due("the row is bare", x.familyOf(0, 4), 62);
        Counted beside = withSpares(1).killing(3);
        due("a row beside it", beside.breaks(0, 1), 0);
        due("the word waits still", beside.wordOf(6, 0), 1);
        due("the sum of no words", new Counted().adding(0, 1).electing(0).breaking(0, 3).rowOf(0, 3), 0);
    }

    private static void forGood() {
        says(0, "If the chip has no spare row left, the row is broken for good.");
        Counted x = Counted.of(0, 0).electing(0).puts(1, 1);
        due("breaks(1, 0)", x.breaks(1, 0), 0);
        due("broken rows", x.chipOf(1, 5), 1);
        refused("once more", () -> Counted.of(0, 0).electing(0).puts(1, 1).breaking(1, 0),
            y -> y.breaks(1, 0), IMPOSSIBLE);
        due("no place for its word", x.tick(1), 1);
        due("so it comes to the next row", x.wordOf(0, 2), 1);
        due("chipOf(1, 5) behind a tick", x.chipOf(1, 5), 1);
        due("all six", Counted.of(0).breaking(0, 5, 4, 3, 2, 1, 0).chipOf(0, 5), 63);
    }

    // ---- raising

    private static void oneByTick() {
        says(0, "By each tick each family, 0 first, raises the first word of its queue, if there is a place for"
            + " it:");
        due("no word waits", Counted.of(0, 0).electing(0).puts(1, 1).tick(1), 0);
        Counted x = waiting(3, 0);
        due("one of three", x.tick(1), 1);
        due("it was the first", x.wordOf(0, 0), 0);
        due("two wait still", x.count(4), 2);
        due("two ticks", x.tick(2), 2);
        due("a tick behind the last one", x.tick(1), 0);
        due("more ticks than words", waiting(3, 0).tick(100), 3);

        Counted three = Counted.of(0, 0, 1, 1, 2, 2, 0).electing(0).electing(2).electing(4);
        three.puts(1, 1, 2).puts(3, 3, 4).puts(5, 5, 6).killing(5, 3, 1);
        due("one of each family", three.tick(1), 3);
        due("of family 0", three.wordOf(0, 0) * 10 + three.wordOf(1, 0), 1);
        due("of family 1", three.wordOf(2, 0) * 10 + three.wordOf(3, 0), 1);
        due("of family 2", three.wordOf(4, 0) * 10 + three.wordOf(5, 0), 1);

        // One place, for which words of two families wait; that of family 1 waits the longer.
        Counted one = Counted.of(0, 0, 1, 1, 2).electing(0).electing(2).fill(4, 5).puts(1, 1).puts(3, 2).killing(3, 1);
        due("one place", one.count(9), 1);
        due("one of two", one.tick(1), 1);
        due("family 0 first", one.wordOf(5, 1), 4);
        due("family 1 waits", one.wordOf(6, 0), 1);
        Counted next = Counted.of(1, 1, 2, 2, 0).electing(0).electing(2).fill(4, 5).puts(1, 1).puts(3, 2).killing(3, 1);
        due("one of two", next.tick(1), 1);
        due("family 1 ahead of family 2", next.wordOf(5, 1), 4);
    }

    private static void leavesItsRow() {
        says(0, "it leaves its row (in which it waits no more then; places are as they are behind that), and");
        Counted only = Counted.of(0, 0, 0).electing(0).fill(1, 1).breaking(2, 1, 2, 3, 4, 5).killing(1);
        due("no place beside it", only.count(9), 0);
        due("but its own row", only.tick(1), 1);
        due("its chip", only.wordOf(0, 1), 2);
        due("its row", only.wordOf(0, 2), 0);
        Counted lowest = waiting(1, 0);
        due("a row ahead of the lowest place", lowest.ticking(1).wordOf(0, 2), 0);
        // The first word leaves row 0, so both chips have a place more; the other rows stay as they are.
        Counted second = waiting(2, 0).breaking(2, 0);
        due("tick(1)", second.tick(1), 1);
        due("row 0 is broken, in row 1 another waits", second.wordOf(0, 2), 2);
        Counted rank = Counted.of(0, 0, 0, 0).electing(0).fill(1, 1).puts(2, 1).puts(3, 2, 3);
        rank.carrying(2, 1).killing(1);
        // Chip 2 keeps row 0, chip 3 row 1; words wait in rows 0 and 1: four places each.
        due("places of chip 2", rank.chipOf(2, 4), 4);
        due("places of chip 3", rank.chipOf(3, 4), 4);
        due("tick(1)", rank.tick(1), 1);
        due("chip 3 has one more behind that", rank.wordOf(0, 1), 3);
        due("its row", rank.wordOf(0, 2), 0);
        due("waits no more", rank.wordOf(0, 4), MISSING);
        due("a place of the family then", rank.chipOf(2, 4), 4);
    }

    private static void ownFamilyFirst() {
        says(0, "comes to a place on a chip of its own family, or, if there is none, of another one; of these"
            + " chips it is the one with the most places, of several the one with the lowest number; there the"
            + " lowest place.");
        Counted own = waiting(1, 0, 1).fill(2, 5).ticking(1);
        due("one place of the own family, six of another one", own.wordOf(0, 1), 2);
        Counted other = Counted.of(0, 0, 0, 1).electing(0).puts(1, 1).fill(2, 6).killing(1).ticking(1);
        due("no place of the own family", other.wordOf(0, 1), 3);
        due("its family then", other.wordOf(0, 3), 1);
        due("the lowest place there", other.wordOf(0, 2), 0);
        Counted before = Counted.of(1, 0, 0).electing(1).puts(2, 1).killing(2).adding(0, 0).fill(3, 5).ticking(1);
        due("the own family, though another one's chip has a lower number", before.wordOf(0, 1), 3);
        Counted lowest = Counted.of(0, 0, 0).electing(2).puts(1, 1).killing(1).ticking(1);
        due("chip 0 of the own family", lowest.wordOf(0, 1), 0);
        Counted away = Counted.of(1, 0, 0).electing(2).puts(1, 1).killing(1).ticking(1);
        due("chip 0 of another family", away.wordOf(0, 1), 0);
        Counted eighth = waiting(1, 0, 0, 0, 0, 0, 0).fill(2, 1).fill(3, 1).fill(4, 1).fill(5, 1).fill(6, 1).ticking(1);
        due("chip 7", eighth.wordOf(0, 1), 7);
        Counted most = waiting(1, 0, 0, 0).puts(2, 1, 2).puts(3, 1).puts(4, 1, 2).ticking(1);
        due("the most places", most.wordOf(0, 1), 3);
        Counted last = waiting(1, 0, 0).puts(2, 1).ticking(1);
        due("the most places are the last chip's", last.wordOf(0, 1), 3);
        Counted several = waiting(1, 0, 0, 0).puts(2, 1).ticking(1);
        due("the lowest number of several", several.wordOf(0, 1), 3);
        Counted others = waiting(1, 1, 2, 2).puts(2, 1, 2).puts(3, 1).puts(4, 1).ticking(1);
        due("the most places of several other families", others.wordOf(0, 1), 3);
        Counted place = Counted.of(0, 0, 0).electing(0).puts(1, 1).fill(2, 4).killing(1).breaking(2, 4).ticking(1);
        due("the lowest place", place.wordOf(0, 2), 5);
        due("it is kept then", place.wordOf(0, 0), 0);
        Counted gap = Counted.of(0, 0, 0, 1).electing(0).puts(2, 1, 2, 3).carrying(1, 3).puts(1, 9).killing(1).ticking(1);
        due("a gap between two", gap.wordOf(3, 2), 1);
    }

    private static void keptThen() {
        says(0, "It is kept then.");
        Counted x = waiting(1, 1).ticking(1);
        due("wordOf(0, 0)", x.wordOf(0, 0), 0);
        due("its chip", x.wordOf(0, 1), 2);
        due("the chip's word", x.rowOf(2, 0), 0);
        due("no place in the queue", x.wordOf(0, 4), MISSING);
        due("words that are kept", x.count(3) * 10 + x.count(4), 10);
        due("it can be written", x.write(0, 99), 10);
        due("it can be carried", x.adding(2, 0).carry(0, 3), 0);
        due("it can be lost again", x.kill(3), 1);
    }

    /** Words 0 and 1 wait; chip 2 has no place but row 1, in which word 1 waits. */
    private static Counted firstInTheWay() {
        return waiting(2, 0).breaking(2, 0, 2, 3, 4, 5);
    }

    private static void noPlace() {
        says(0, "If there is no place, it waits as before, and its queue stays.");
        Counted x = firstInTheWay();
        String before = x.seen();
        x = firstInTheWay();
        due("tick(1)", x.tick(1), 0);
        due("the second one would have a place, but is behind the first", x.wordOf(1, 4), 1);
        due("the first one", x.wordOf(0, 4), 0);
        same("but for the time", x.seen(), before.replace(" count6=0 ", " count6=1 "));
        x = firstInTheWay();
        due("tick(100)", x.tick(100), 0);
        due("two wait", x.count(4), 2);
        due("in its row", x.wordOf(0, 2), 0);
        due("row 0 is no place", x.chip(0, 0) * 10 + x.chipOf(3, 4), 34);
        due("a chip more", x.tick(1), 1);
        due("the first one comes", x.wordOf(0, 1), 3);
        due("then the second one", x.tick(1), 1);
        due("its chip", x.wordOf(1, 1), 3);
        // A family without a place keeps none of the others from raising.
        Counted two = Counted.of(0, 0, 1, 1, 1).electing(0).electing(2).puts(1, 1).puts(3, 2).fill(4, 6);
        two.breaking(1, 0).killing(1, 3).breaking(4, 0);
        due("no place at all", two.tick(1), 0);
        Counted free = Counted.of(0, 0, 1, 1, 1).electing(0).electing(2).puts(1, 1, 2).puts(3, 3).fill(4, 6)
            .carrying(3, 1).killing(1, 3);
        due("family 1 has a place as its own word leaves it", free.tick(1), 1);
        due("it came to chip 4", free.wordOf(2, 1), 4);
        due("family 0 waits", free.wordOf(0, 0), 1);
    }

    static void all() {
        lastCall();
        time();
        sets();
        chips();
        livesOrIsDead();
        rows();
        wholeOrBroken();
        oneWordInARow();
        places();
        oneGodfather();
        sums();
        guardedRows();
        words();
        fates();
        valueOfOneThatWaits();
        oneWaitsInARow();
        waitsOrIsLost();
        queues();
        byRows();
        godfatherDies();
        godfathersRowBreaks();
        spareRows();
        raisedAtOnce();
        sumMadeAnew();
        forGood();
        oneByTick();
        leavesItsRow();
        ownFamilyFirst();
        keptThen();
        noPlace();
    }
}
