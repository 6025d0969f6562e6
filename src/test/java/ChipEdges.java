/** The boundaries of promises 1 to 7: a new object, and the calls about chips. */
final class ChipEdges extends Edges {

    private static void newObject() {
        says(1, "Creates a memory without chips, at the time 0.");
        Counted x = new Counted();
        for (int what = 0; what <= 11; what++) {
            due("count(" + what + ")", x.count(what), 0);
        }
        for (int family = 0; family < 3; family++) {
            for (int what = 0; what <= 6; what++) {
                boolean told = what != 0 && what != 6;
                due("familyOf(" + family + ", " + what + ")", x.familyOf(family, what), told ? 0 : MISSING);
            }
            due("heir(" + family + ")", x.heir(family), MISSING);
        }
        due("chipOf(0, 0)", x.chipOf(0, 0), INVALID);
        due("rowOf(0, 0)", x.rowOf(0, 0), INVALID);
        due("read(0)", x.read(0), INVALID);
        due("wordOf(0, 0)", x.wordOf(0, 0), INVALID);
        due("loss(0, -1)", x.loss(0, -1), INVALID);
        due("safe()", x.safe(), 0);
        due("worstTwo(0)", x.worstTwo(0), MISSING);
        due("worstTwo(1)", x.worstTwo(1), MISSING);
        due("calm()", x.calm(), 0);
        due("fault(0)", x.fault(0), MISSING);
        due("fault(1)", x.fault(1), MISSING);
        due("clearText()", x.clearText(), 0);
        refused("elect(0)", Counted::new, y -> y.elect(0), INVALID);
        refused("kill(0)", Counted::new, y -> y.kill(0), INVALID);
        refused("breaks(0, 0)", Counted::new, y -> y.breaks(0, 0), INVALID);
        refused("put(0, 0)", Counted::new, y -> y.put(0, 0), INVALID);
        refused("write(0, 0)", Counted::new, y -> y.write(0, 0), INVALID);
        refused("carry(0, 0)", Counted::new, y -> y.carry(0, 0), INVALID);
        refused("empty(0)", Counted::new, y -> y.empty(0), INVALID);
        refused("undo()", Counted::new, Counted::undo, IMPOSSIBLE);
        change("tick(1)", Counted::new, y -> y.tick(1), 0);
        change("play()", Counted::new, Counted::play, 0);
        change("chip(0, 0)", Counted::new, y -> y.chip(0, 0), 0);
        Counted full = allWords();
        due("another object has words", full.count(2), 24);
        due("this one has none", x.count(2), 0);
    }

    private static void constants() {
        says(0, "`INVALID_ARGUMENT = -1000001`: An argument is out of its range, or there is no such chip or word.");
        due("INVALID_ARGUMENT", GodChips.INVALID_ARGUMENT, INVALID);
        says(0, "`NOT_POSSIBLE = -1000002`: The call is not possible in the present state.");
        due("NOT_POSSIBLE", GodChips.NOT_POSSIBLE, IMPOSSIBLE);
        says(0, "`LIMIT_REACHED = -1000003`: A fixed limit has been reached.");
        due("LIMIT_REACHED", GodChips.LIMIT_REACHED, LIMIT);
        says(0, "`NOT_FOUND = -1000004`: There is no such value.");
        due("NOT_FOUND", GodChips.NOT_FOUND, MISSING);
    }

    private static void chip() {
        says(2, "Adds a chip, which lives and is no godfather.");
        Counted x = Counted.of(0, 0).electing(0);
        due("chip(0, 2)", x.chip(0, 2), 2);
        int[] due = {0, 1, 0, 0, 6, 0, 2};
        for (int what = 0; what <= 6; what++) {
            due("chipOf(2, " + what + ")", x.chipOf(2, what), due[what]);
        }
        for (int row = 0; row < 6; row++) {
            due("rowOf(2, " + row + ")", x.rowOf(2, row), MISSING);
        }
        due("the godfather is another one", x.familyOf(0, 0), 0);

        says(2, "`family`: 0 to 2");
        for (int each = 0; each <= 2; each++) {
            int family = each;
            change("chip(" + family + ", 0)", Edges::rich, y -> y.chip(family, 0), 6);
            due("its family", Counted.of(family).chipOf(0, 0), family);
        }
        refusedFor("family", Edges::rich, (y, family) -> y.chip(family, 0), INVALID, -1, 3, LEAST, MOST);
        refusedFor("family", Counted::new, (y, family) -> y.chip(family, 0), INVALID, -1, 3);

        says(2, "`spares`: 0 to 2");
        for (int each = 0; each <= 2; each++) {
            int spares = each;
            change("chip(0, " + spares + ")", Edges::rich, y -> y.chip(0, spares), 6);
            due("its spare rows", new Counted().adding(0, spares).chipOf(0, 6), spares);
        }
        refusedFor("spares", Edges::rich, (y, spares) -> y.chip(0, spares), INVALID, -1, 3, LEAST, MOST);
        refusedFor("spares", Counted::new, (y, spares) -> y.chip(0, spares), INVALID, -1, 3);

        says(2, "Returns its number; INVALID_ARGUMENT if an argument is out of range; LIMIT_REACHED if there are 8.");
        change("the first chip", Counted::new, y -> y.chip(0, 0), 0);
        change("the eighth chip", () -> rich().adding(0, 0), y -> y.chip(0, 0), 7);
        refused("the ninth chip", () -> rich().adding(0, 0).adding(0, 0), y -> y.chip(0, 0), LIMIT);
        refused("the ninth chip of no family", () -> rich().adding(0, 0).adding(0, 0), y -> y.chip(3, 0), INVALID);
        refused("the ninth chip of 3 spare rows", () -> rich().adding(0, 0).adding(0, 0), y -> y.chip(0, 3), INVALID);
        refused("no family and no spare rows", Edges::rich, y -> y.chip(-1, -1), INVALID);
    }

    private static void elect() {
        numberOfAChip(3, "`chip`: number of the chip", Counted::elect);

        says(3, "Elects a chip: it is the godfather of its family then.");
        Counted x = Counted.of(0, 1, 1).electing(2);
        due("chipOf(2, 2)", x.chipOf(2, 2), 1);
        due("chipOf(1, 2)", x.chipOf(1, 2), 0);
        due("familyOf(1, 0)", x.familyOf(1, 0), 2);
        due("familyOf(0, 0)", x.familyOf(0, 0), MISSING);
        due("its places", x.chipOf(2, 4), 0);
        due("its rows are sums", x.rowOf(2, 0), 0);

        says(3, "Returns how many rows of its family are guarded then; INVALID_ARGUMENT; NOT_POSSIBLE if it is dead,"
            + " its family has a godfather, or it keeps a word.");
        for (int broken = 0; broken <= 6; broken++) {
            Counted y = Counted.of(0, 0);
            for (int row = 0; row < broken; row++) {
                y.breaking(1, row);
            }
            due("elect of one with " + broken + " broken rows", y.elect(1), 6 - broken);
        }
        due("a spare row stood in", new Counted().adding(0, 1).breaking(0, 0).elect(0), 6);
        due("another chip's rows are broken", Counted.of(0, 0).breaking(0, 0, 1).elect(1), 6);
        change("elect(3) of an emptied chip", () -> rich().adding(1, 0).carrying(4, 2).carrying(5, 2),
            y -> y.elect(3), 5);
        refused("a dead one of a family without godfather", Edges::rich, y -> y.elect(4), IMPOSSIBLE);
        refused("a dead one of a family with a godfather", Edges::rich, y -> y.elect(1), IMPOSSIBLE);
        refused("one of a family with a godfather", Edges::rich, y -> y.elect(5), IMPOSSIBLE);
        refused("the godfather", Edges::rich, y -> y.elect(0), IMPOSSIBLE);
        refused("one that keeps two words", Edges::rich, y -> y.elect(3), IMPOSSIBLE);
        refused("one that keeps one word in its last row", () -> Counted.of(0).breaking(0, 0, 1, 2, 3, 4).puts(0, 1),
            y -> y.elect(0), IMPOSSIBLE);
        change("one of another family than the godfather's", () -> Counted.of(0, 1).electing(0), y -> y.elect(1), 6);
        change("one that kept a word, which is lost", () -> Counted.of(0).puts(0, 1).breaking(0, 0), y -> y.elect(0), 5);
        change("one behind its godfather's death", () -> waiting(3, 0).killing(0), y -> y.elect(2), 6);
    }

    private static void kill() {
        says(4, "Lets a chip die.");
        for (int chip : new int[] {0, 2, 3, 5}) {
            Counted x = rich();
            due("it lives", x.chipOf(chip, 1), 1);
            int living = x.familyOf(x.chipOf(chip, 0), 1);
            x.killing(chip);
            due("it is dead", x.chipOf(chip, 1), 0);
            due("it is no godfather", x.chipOf(chip, 2), 0);
            due("it keeps no words", x.chipOf(chip, 3), 0);
            due("it has no places", x.chipOf(chip, 4), 0);
            due("none of its rows can be told", x.rowOf(chip, 4), IMPOSSIBLE);
            due("the others of its family live", x.familyOf(x.chipOf(chip, 0), 1), living - (1 << chip));
            due("chips that live", x.count(1), 3);
            due("chips", x.count(0), 6);
        }
        numberOfAChip(4, "`chip`: number of the chip", Counted::kill);

        says(4, "Returns how many words are lost by it; INVALID_ARGUMENT; NOT_POSSIBLE if it is dead.");
        refused("a dead one", Edges::rich, y -> y.kill(4), IMPOSSIBLE);
        refused("a dead one of a family with a godfather", Edges::rich, y -> y.kill(1), IMPOSSIBLE);
        refused("a dead godfather", () -> waiting(2).killing(0), y -> y.kill(0), IMPOSSIBLE);
        change("one without words", Edges::rich, y -> y.kill(5), 0);
        change("one with a word where another waits", Edges::rich, y -> y.kill(2), 2);
        change("one with bare words", Edges::rich, y -> y.kill(3), 2);
        change("a godfather of three that wait", Edges::rich, y -> y.kill(0), 3);
        change("the last one that lives", () -> Counted.of(0), y -> y.kill(0), 0);
        for (int words = 0; words <= 6; words++) {
            due("one with " + words + " bare words", Counted.of(0, 1).fill(1, words).kill(1), words);
            due("one with " + words + " guarded words", Counted.of(1, 1).electing(0).fill(1, words).kill(1), 0);
            due("one with " + words + " words where six wait",
                Counted.of(1, 1, 1).electing(0).fill(1, 6).fill(2, words).killing(1).kill(2), 2 * words);
            due("a godfather of " + words + " that wait", waiting(words, 0).kill(0), words);
            due("a godfather of " + words + " that are kept",
                Counted.of(1, 1).electing(0).fill(1, words).kill(0), 0);
        }
        Counted dead = new Counted().adding(2, 1).breaking(0, 0, 3).puts(0, 1).killing(0);
        int[] due = {2, 0, 0, 0, 0, 8, 0};
        for (int what = 0; what <= 6; what++) {
            due("chipOf(0, " + what + ") of a dead one", dead.chipOf(0, what), due[what]);
        }
        due("count(1)", dead.count(1), 0);
        due("count(0)", dead.count(0), 1);
        due("count(5)", dead.count(5), 1);
    }

    private static void breaks() {
        says(5, "Lets a row of a chip break.");
        for (int row = 0; row < 6; row++) {
            Counted x = Counted.of(0, 0, 1).breaking(1, row);
            for (int other = 0; other < 6; other++) {
                due("a row of this chip", x.rowOf(1, other), other == row ? IMPOSSIBLE : MISSING);
                due("a row of a chip of its family", x.rowOf(0, other), MISSING);
                due("a row of another family's chip", x.rowOf(2, other), MISSING);
            }
            due("its broken rows", x.chipOf(1, 5), 1 << row);
            due("its places", x.chipOf(1, 4), 5);
            due("it lives", x.chipOf(1, 1), 1);
            due("the places of all", x.count(9), 17);
        }
        numberOfAChip(5, "`chip`: number of the chip", (y, chip) -> y.breaks(chip, 0));

        says(5, "`row`: 0 to 5");
        for (int each = 0; each <= 5; each++) {
            int row = each;
            change("breaks(2, " + row + ") with a spare row", Edges::rich, y -> y.breaks(2, row), row == 0 ? 2 : 0);
            change("breaks(5, " + row + ")", Edges::rich, y -> y.breaks(5, row), 0);
            due("chipOf(0, 5)", Counted.of(0).breaking(0, row).chipOf(0, 5), 1 << row);
        }
        refusedFor("row", Edges::rich, (y, row) -> y.breaks(5, row), INVALID, -1, 6, 7, 32, LEAST, MOST);

        says(5, "Returns how many words are lost by it; INVALID_ARGUMENT if an argument is out of range; NOT_POSSIBLE"
            + " if the chip is dead, or the row is broken.");
        refused("a row of a dead one", Edges::rich, y -> y.breaks(1, 0), IMPOSSIBLE);
        refused("a row of a dead one with spare rows", Edges::rich, y -> y.breaks(4, 0), IMPOSSIBLE);
        refused("no row of a dead one", Edges::rich, y -> y.breaks(4, 6), INVALID);
        refused("a broken row", Edges::rich, y -> y.breaks(3, 5), IMPOSSIBLE);
        refused("a broken row of a godfather", () -> rich().breaking(0, 3, 3), y -> y.breaks(0, 3), IMPOSSIBLE);
        change("a row beside the broken one", Edges::rich, y -> y.breaks(3, 4), 0);
        change("a bare row with a word", Edges::rich, y -> y.breaks(3, 1), 1);
        change("a row of this number of a chip beside it", () -> rich().breaking(5, 4), y -> y.breaks(2, 4), 0);
        change("a godfather's row where a word waits, a spare row", Edges::rich, y -> y.breaks(0, 2), 1);
        change("a godfather's row where a word waits", () -> rich().breaking(0, 5), y -> y.breaks(0, 2), 1);
        change("a godfather's row where none waits", () -> rich().breaking(0, 5), y -> y.breaks(0, 3), 0);
        change("a guarded row with a word", () -> Counted.of(0, 0).electing(0).puts(1, 9), y -> y.breaks(1, 0), 0);
        change("a row where a word is kept and another waits", () -> rich().breaking(2, 5),
            y -> y.breaks(2, 0), 2);
    }

    private static void chipOf() {
        says(6, "Returns something of a chip.");
        for (int each = 0; each <= 6; each++) {
            int what = each;
            changesNothing("chipOf(2, " + what + ")", Edges::rich, y -> y.chipOf(2, what));
        }
        numberOfAChip(6, "`chip`: number of the chip", (y, chip) -> y.chipOf(chip, 1));

        says(6, "`what`: 0: its family; 1: 1 if it lives, otherwise 0; 2: 1 if it is a godfather, otherwise 0; 3:"
            + " the words that it keeps; 4: its places; 5: the set of its broken rows; 6: the spare rows that are left");
        int[][] due = {
            {0, 1, 1, 0, 0, 0, 1}, {0, 0, 0, 0, 0, 0, 0}, {0, 1, 0, 1, 3, 0, 1},
            {1, 1, 0, 2, 3, 32, 0}, {1, 0, 0, 0, 0, 0, 2}, {0, 1, 0, 0, 3, 0, 0}};
        Counted x = rich();
        for (int chip = 0; chip < 6; chip++) {
            for (int what = 0; what <= 6; what++) {
                due("chipOf(" + chip + ", " + what + ")", x.chipOf(chip, what), due[chip][what]);
            }
        }
        for (int words = 0; words <= 6; words++) {
            Counted y = Counted.of(0).fill(0, words);
            due("words", y.chipOf(0, 3), words);
            due("places", y.chipOf(0, 4), 6 - words);
        }
        due("all rows are broken", Counted.of(0).breaking(0, 0, 1, 2, 3, 4, 5).chipOf(0, 5), 63);
        due("a spare row that stands in is no broken one", new Counted().adding(0, 2).breaking(0, 0, 0).chipOf(0, 5), 0);
        due("two spare rows are used up", new Counted().adding(0, 2).breaking(0, 0, 0).chipOf(0, 6), 0);
        due("a word that was carried away is kept no more", Counted.of(0, 1).puts(0, 1).carrying(0, 1).chipOf(0, 3), 0);
        due("it is kept there", Counted.of(0, 1).puts(0, 1).carrying(0, 1).chipOf(1, 3), 1);

        says(6, "Returns the number; INVALID_ARGUMENT if an argument is out of range.");
        refusedFor("what", Edges::rich, (y, what) -> y.chipOf(2, what), INVALID, -1, 7, LEAST, MOST);
        refusedFor("what of a dead one", Edges::rich, (y, what) -> y.chipOf(1, what), INVALID, -1, 7);
    }

    private static void rowOf() {
        says(7, "Returns what a chip keeps in a row.");
        Counted moved = Counted.of(0, 0).puts(0, 7, 8, 9).carrying(1, 1);
        due("the first word", moved.rowOf(0, 0), 0);
        due("the row of one that was carried away", moved.rowOf(0, 1), MISSING);
        due("the third word", moved.rowOf(0, 2), 2);
        due("the row to which it came", moved.rowOf(1, 0), 1);
        due("empty(0)", moved.empty(0), 2);
        due("no word", moved.rowOf(0, 0), MISSING);
        moved.electing(0);
        due("a sum", moved.rowOf(0, 0), 8);
        due("the sum of the row to which the first word came", moved.rowOf(0, 1), 7);
        numberOfAChip(7, "`chip`: number of the chip", (y, chip) -> y.rowOf(chip, 0));

        says(7, "`row`: 0 to 5");
        for (int row = 0; row <= 5; row++) {
            due("rowOf(0, " + row + ")", Counted.of(0).fill(0, 6).rowOf(0, row), row);
        }
        refusedFor("row of a godfather", Edges::rich, (y, row) -> y.rowOf(0, row), INVALID, -1, 6, LEAST, MOST);
        refusedFor("row", Edges::rich, (y, row) -> y.rowOf(2, row), INVALID, -1, 6, LEAST, MOST);
        refusedFor("row of a dead one", Edges::rich, (y, row) -> y.rowOf(1, row), INVALID, -1, 6);

        says(7, "Returns the number of the word; the sum, if it is a godfather; INVALID_ARGUMENT if an argument is out"
            + " of range; NOT_POSSIBLE if the chip is dead or the row is broken; NOT_FOUND if it keeps none.");
        Counted x = rich();
        int[][] due = {
            {11 ^ 44, 22, 33, 0, 0, 0},
            {IMPOSSIBLE, IMPOSSIBLE, IMPOSSIBLE, IMPOSSIBLE, IMPOSSIBLE, IMPOSSIBLE},
            {3, MISSING, MISSING, MISSING, MISSING, MISSING},
            {4, 5, MISSING, MISSING, MISSING, IMPOSSIBLE},
            {IMPOSSIBLE, IMPOSSIBLE, IMPOSSIBLE, IMPOSSIBLE, IMPOSSIBLE, IMPOSSIBLE},
            {MISSING, MISSING, MISSING, MISSING, MISSING, MISSING}};
        for (int chip = 0; chip < 6; chip++) {
            for (int row = 0; row < 6; row++) {
                due("rowOf(" + chip + ", " + row + ")", x.rowOf(chip, row), due[chip][row]);
            }
        }
        refused("a row of a dead one", Edges::rich, y -> y.rowOf(1, 0), IMPOSSIBLE);
        refused("a broken row", Edges::rich, y -> y.rowOf(3, 5), IMPOSSIBLE);
        refused("a broken row of a godfather", () -> rich().breaking(0, 1, 1), y -> y.rowOf(0, 1), IMPOSSIBLE);
        refused("a row without a word", Edges::rich, y -> y.rowOf(2, 5), MISSING);
        due("the word with the number 0", Counted.of(0).puts(0, 9).rowOf(0, 0), 0);
        due("the word with the number 23", allWords().rowOf(3, 5), 23);
        due("a sum of 255", Counted.of(0, 0).electing(0).puts(1, 255).rowOf(0, 0), 255);
        due("a godfather's row behind its death", waiting(1).killing(0).rowOf(0, 0), IMPOSSIBLE);
        changesNothing("rowOf(0, 0)", Edges::rich, y -> y.rowOf(0, 0));
    }

    static void all() {
        newObject();
        constants();
        chip();
        elect();
        kill();
        breaks();
        chipOf();
        rowOf();
    }
}
