/** The boundaries of promises 14 to 21: families, ticks, what would be, and counts. */
final class FamilyEdges extends Edges {

    private static void familyOf() {
        says(14, "Returns something of a family.");
        for (int each = 0; each <= 6; each++) {
            int what = each;
            for (int family = 0; family < 3; family++) {
                int asked = family;
                changesNothing("familyOf(" + family + ", " + what + ")", Edges::rich, y -> y.familyOf(asked, what));
            }
        }

        says(14, "`family`: 0 to 2");
        for (int family = 0; family <= 2; family++) {
            due("chips of family " + family, Counted.of(0, 0, 1, 1, 2, 2).familyOf(family, 1), 3 << 2 * family);
        }
        refusedFor("family", Edges::rich, (y, family) -> y.familyOf(family, 1), INVALID, -1, 3, LEAST, MOST);
        refusedFor("family without chips", Counted::new, (y, family) -> y.familyOf(family, 0), INVALID, -1, 3);

        says(14, "`what`: 0: its godfather; 1: its chips that live, as a set; 2: the words that wait in it; 3: the words"
            + " that are kept in it; 4: the set of rows that are guarded; 5: the words that are kept in bare rows; 6: the"
            + " first word of its queue");
        int[][] due = {{0, 1 + 4 + 32, 3, 1, 63, 0, 0}, {MISSING, 8, 0, 2, 0, 2, MISSING}, {MISSING, 0, 0, 0, 0, 0, MISSING}};
        Counted x = rich();
        for (int family = 0; family < 3; family++) {
            for (int what = 0; what <= 6; what++) {
                due("familyOf(" + family + ", " + what + ")", x.familyOf(family, what), due[family][what]);
            }
        }
        Counted eight = Counted.of(2, 2, 2, 2, 2, 2, 2, 2);
        due("eight chips that live", eight.familyOf(2, 1), 255);
        due("the last one is the godfather", eight.electing(7).familyOf(2, 0), 7);
        due("seven that live", eight.killing(0).familyOf(2, 1), 254);
        due("the last one that lives", eight.killing(1, 2, 3, 4, 5, 6).familyOf(2, 1), 128);
        due("none that lives", eight.killing(7).familyOf(2, 1), 0);
        due("24 words that are kept", Counted.of(1, 1, 1, 1).fill(0, 6).fill(1, 6).fill(2, 6).fill(3, 6).familyOf(1, 3), 24);
        for (int broken = 0; broken <= 6; broken++) {
            Counted y = Counted.of(0, 0, 0).electing(0).fill(1, 6).puts(2, 1);
            for (int row = 5; row > 5 - broken; row--) {
                y.breaking(0, row);
            }
            due("guarded rows", y.familyOf(0, 4), 63 >> broken);
            due("words in bare rows", y.familyOf(0, 5), broken == 6 ? 7 : broken);
            due("words that are kept", y.familyOf(0, 3), 7);
        }
        for (int words = 0; words <= 6; words++) {
            Counted y = waiting(words);
            due("words that wait", y.familyOf(0, 2), words);
            due("the first one", y.familyOf(0, 6), words == 0 ? MISSING : 0);
            due("words that are kept", y.familyOf(0, 3), 0);
        }
        due("the first one is the last word", Counted.of(0, 0, 0, 0, 1, 1).electing(4).fill(0, 6).fill(1, 6).fill(2, 6)
            .fill(3, 5).puts(5, 1).killing(5).familyOf(1, 6), 23);

        says(14, "Returns the number; INVALID_ARGUMENT if an argument is out of range; NOT_FOUND for 0 and 6 if there is"
            + " none.");
        refusedFor("what", Edges::rich, (y, what) -> y.familyOf(0, what), INVALID, -1, 7, LEAST, MOST);
        refusedFor("what of an empty family", Edges::rich, (y, what) -> y.familyOf(2, what), INVALID, -1, 7);
        refusedFor("what of an empty family", Edges::rich, (y, what) -> y.familyOf(2, what), MISSING, 0, 6);
        refusedFor("what behind a godfather's death", () -> waiting(2).killing(0),
            (y, what) -> y.familyOf(0, what), MISSING, 0, 6);
        refused("no word waits", () -> waiting(0), y -> y.familyOf(0, 6), MISSING);
        refused("no word waits any more", () -> waiting(1, 1).ticking(1), y -> y.familyOf(0, 6), MISSING);
    }

    private static Counted at(int time) {
        return Counted.of(0, 0, 0).electing(0).puts(1, 7).later(time);
    }

    private static void tick() {
        says(15, "Lets ticks go by.");
        Counted goes = waiting(2, 0);
        int time = 0;
        for (int ticks : new int[] {1, 2, 3, 50, 99, 100}) {
            goes.ticking(ticks);
            time += ticks;
            due("the time", goes.count(6), time);
        }
        due("ticks where no word waits", new Counted().ticking(100).count(6), 100);
        due("ticks where no word can be raised", waiting(2).ticking(100).count(6), 100);

        says(15, "`ticks`: 1 to 100");
        change("tick(1)", Edges::rich, y -> y.tick(1), 1);
        change("tick(2)", Edges::rich, y -> y.tick(2), 2);
        change("tick(100)", Edges::rich, y -> y.tick(100), 3);
        due("the time behind it", rich().ticking(100).count(6), 103);
        refusedFor("ticks", Edges::rich, Counted::tick, INVALID, 0, -1, 101, LEAST, MOST);

        says(15, "Returns how many words are raised; INVALID_ARGUMENT if ticks is out of range; LIMIT_REACHED if the time"
            + " would be above 100000.");
        change("tick(1) at 99999", () -> at(99999), y -> y.tick(1), 0);
        change("tick(100) at 99900", () -> at(99900), y -> y.tick(100), 0);
        change("tick(99) at 99901", () -> at(99901), y -> y.tick(99), 0);
        due("the last time", at(99900).ticking(100).count(6), 100000);
        refused("tick(100) at 99901", () -> at(99901), y -> y.tick(100), LIMIT);
        refused("tick(2) at 99999", () -> at(99999), y -> y.tick(2), LIMIT);
        refused("tick(1) at 100000", () -> at(100000), y -> y.tick(1), LIMIT);
        refused("tick(100) at 100000", () -> at(100000), y -> y.tick(100), LIMIT);
        refusedFor("ticks at 100000", () -> at(100000), Counted::tick, INVALID, 0, -1, 101, LEAST, MOST);
        refused("tick(2) at 99999 with a word that waits", () -> at(99999).killing(1), y -> y.tick(2), LIMIT);
        change("tick(1) at 99999 with a word that waits", () -> at(99999).killing(1), y -> y.tick(1), 1);
        change("tick(1) at the last time behind undo()", () -> at(100000).undoing(1), y -> y.tick(100), 0);
        Counted full = waiting(6, 0);
        due("three ticks", full.tick(3), 3);
        due("three words are left", full.tick(4), 3);
        due("none is left", full.tick(1), 0);
        due("count(7)", full.count(7), 6);
        due("twelve words of two families",
            Counted.of(0, 0, 1, 1, 0, 1).electing(0).electing(2).fill(1, 6).fill(3, 6).killing(1, 3).tick(6), 12);
    }

    private static void loss() {
        numberOfAChip(16, "`first`: number of a chip", (y, chip) -> y.loss(chip, -1));

        says(16, "`second`: number of another chip, or -1 for none");
        due("loss(2, -1)", rich().loss(2, -1), 2);
        due("loss(3, -1)", rich().loss(3, -1), 2);
        due("loss(0, -1)", rich().loss(0, -1), 3);
        due("loss(5, -1)", rich().loss(5, -1), 0);
        due("loss(2, 3)", rich().loss(2, 3), 4);
        due("loss(0, 5)", rich().loss(0, 5), 3);
        refusedFor("second", Edges::rich, (y, second) -> y.loss(5, second), INVALID, -2, 6, 7, 8, LEAST, MOST);
        due("a second one of eight", Counted.of(0, 0, 0, 0, 0, 0, 0, 0).fill(7, 1).loss(6, 7), 1);
        refusedFor("second", () -> Counted.of(0, 0, 0, 0, 0, 0, 0, 0), (y, second) -> y.loss(0, second), INVALID, -2, 8);

        says(16, "Returns how many; INVALID_ARGUMENT if an argument is out of range or both are the same; NOT_POSSIBLE if"
            + " one of them is dead.");
        refusedFor("both", Edges::rich, (y, chip) -> y.loss(chip, chip), INVALID, -1, 0, 1, 2, 3, 4, 5, 6);
        refusedFor("first and a dead one", Edges::rich, (y, chip) -> y.loss(chip, 4), INVALID, -1, 4, 6);
        refusedFor("a dead one and second", Edges::rich, (y, chip) -> y.loss(4, chip), INVALID, -2, 4, 6);
        refusedFor("first and none", Edges::rich, (y, chip) -> y.loss(chip, -1), IMPOSSIBLE, 1, 4);
        refusedFor("first, dead", Edges::rich, (y, chip) -> y.loss(chip, 2), IMPOSSIBLE, 1, 4);
        refusedFor("second, dead", Edges::rich, (y, chip) -> y.loss(2, chip), IMPOSSIBLE, 1, 4);
        refused("both are dead", Edges::rich, y -> y.loss(1, 4), IMPOSSIBLE);
        changesNothing("loss(0, 2)", Edges::rich, y -> y.loss(0, 2));

        says(16, "Tells how many words would be lost if chips died one after the other, without a tick between.");
        Counted pair = Counted.of(0, 0, 0, 1).electing(0).fill(1, 6).fill(2, 6).fill(3, 6);
        due("six rows twice", pair.loss(1, 2), 12);
        due("a godfather, then six", pair.loss(0, 1), 6);
        due("six, then the godfather", pair.loss(1, 0), 6);
        due("a godfather alone", pair.loss(0, -1), 0);
        due("six guarded ones", pair.loss(1, -1), 0);
        due("six bare ones", pair.loss(3, -1), 6);
        due("six of each", pair.loss(3, 1), 6);
        due("a godfather, then six of another family", pair.loss(0, 3), 6);
        due("chips without words", Counted.of(0, 1).loss(0, 1), 0);
        Counted places = Counted.of(0, 0, 0, 0).electing(0).puts(1, 1).puts(2, 2);
        due("no tick between, though there are places", places.loss(1, 2), 2);
    }

    private static void safe() {
        says(17, "Returns the set of chips.");
        for (int set = 0; set < 256; set++) {
            Counted x = Counted.of(0, 1, 2, 0, 1, 2, 0, 1);
            for (int chip = 0; chip < 8; chip++) {
                x.fill(chip, 1 - (set >> chip & 1));
            }
            due("the chips without words", x.safe(), set);
        }

        says(17, "Returns the chips that live by whose death, each by itself, no word would be lost.");
        due("no chips", new Counted().safe(), 0);
        due("eight without words", Counted.of(0, 0, 1, 1, 2, 2, 0, 1).safe(), 255);
        due("none lives", Counted.of(0, 1).killing(0, 1).safe(), 0);
        due("only the last one", Counted.of(0, 1, 2, 0, 1, 2, 0, 1).fill(0, 1).fill(1, 1).fill(2, 1).fill(3, 1).fill(4, 1)
            .fill(5, 1).fill(6, 1).safe(), 128);
        due("none is safe", Counted.of(0, 1).fill(0, 1).fill(1, 1).safe(), 0);
        due("rich", rich().safe(), 32);
        due("guarded ones and their godfather", Counted.of(0, 0, 0).electing(0).fill(1, 6).fill(2, 6).safe(), 7);
        due("one bare row", Counted.of(0, 0, 0).electing(0).fill(1, 6).fill(2, 5).breaking(0, 5).safe(), 5);
        due("one waits in the row of one of them", Counted.of(0, 0, 0, 0).electing(0).puts(1, 1).puts(2, 1, 2).puts(3, 3)
            .carrying(1, 3).killing(1).safe(), 4);
        changesNothing("safe()", Edges::rich, Counted::safe);
    }

    private static void worstTwo() {
        says(18, "Finds the two chips that live by whose deaths, the first one first, most words would be lost; of several"
            + " the lowest first one, then the lowest second one.");
        due("two without words", Counted.of(0, 1).worstTwo(0), 1);
        due("no words", Counted.of(0, 1).worstTwo(1), 0);
        due("eight without words", Counted.of(0, 0, 0, 0, 0, 0, 0, 0).worstTwo(0), 1);
        Counted last = Counted.of(0, 0, 0, 0, 0, 0, 0, 0).fill(7, 1).fill(6, 2);
        due("the last two", last.worstTwo(0), 67);
        due("their words", last.worstTwo(1), 3);
        due("the lowest second one", Counted.of(0, 0, 0, 0).fill(1, 2).fill(2, 1).fill(3, 1).worstTwo(0), 12);
        due("the lowest first one", Counted.of(0, 0, 0, 0).fill(3, 2).fill(2, 1).fill(1, 1).worstTwo(0), 13);
        due("a first one without words", Counted.of(0, 0, 0, 0).fill(3, 2).worstTwo(0), 3);
        due("a dead one is none", Counted.of(0, 0, 0, 0).killing(0).fill(3, 2).worstTwo(0), 13);
        Counted two = Counted.of(0, 0, 0, 1).electing(0).fill(1, 6).fill(2, 6).fill(3, 6);
        due("two of six guarded rows", two.worstTwo(0), 12);
        due("their words", two.worstTwo(1), 12);
        Counted none = Counted.of(0, 0).electing(1).fill(0, 3);
        due("a chip and its godfather", none.worstTwo(0), 1);
        due("their words", none.worstTwo(1), 3);

        says(18, "`what`: 0: ten times the first one plus the second one; 1: how many words");
        for (int first = 0; first < 7; first++) {
            for (int second = first + 1; second < 8; second++) {
                Counted x = Counted.of(0, 0, 0, 0, 0, 0, 0, 0).fill(first, 1).fill(second, 2);
                due("worstTwo(0)", x.worstTwo(0), 10 * first + second);
                due("worstTwo(1)", x.worstTwo(1), 3);
            }
        }

        says(18, "Returns the number; INVALID_ARGUMENT if what is out of range; NOT_FOUND if fewer than two chips live.");
        refusedFor("what", Edges::rich, Counted::worstTwo, INVALID, -1, 2, LEAST, MOST);
        refusedFor("what without chips", Counted::new, Counted::worstTwo, INVALID, -1, 2);
        refusedFor("what without chips", Counted::new, Counted::worstTwo, MISSING, 0, 1);
        refusedFor("what of one chip", () -> Counted.of(0).fill(0, 2), Counted::worstTwo, MISSING, 0, 1);
        refusedFor("what of one chip", () -> Counted.of(0), Counted::worstTwo, INVALID, -1, 2);
        refusedFor("one of eight lives", () -> Counted.of(0, 0, 0, 0, 0, 0, 0, 0).killing(0, 1, 2, 3, 4, 5, 6),
            Counted::worstTwo, MISSING, 0, 1);
        due("two of eight live", Counted.of(0, 0, 0, 0, 0, 0, 0, 0).killing(0, 1, 2, 3, 4, 5).worstTwo(0), 67);
        changesNothing("worstTwo(0)", Edges::rich, y -> y.worstTwo(0));
    }

    private static void calm() {
        says(19, "Tells behind how many ticks (whatever the time is) no word waits any more.");
        for (int words = 0; words <= 6; words++) {
            due("a family's " + words, waiting(words, 0).calm(), words);
        }
        due("twelve of two families", Counted.of(0, 0, 1, 1, 0, 1).electing(0).electing(2).fill(1, 6).fill(3, 6)
            .killing(1, 3).calm(), 6);
        due("six and one", Counted.of(0, 0, 1, 1, 0, 1).electing(0).electing(2).fill(1, 1).fill(3, 6)
            .killing(1, 3).calm(), 6);
        // Chips 4 and 5 have no rows but those in which words of their family wait.
        Counted behind = Counted.of(0, 0, 1, 1, 0, 0).electing(0).electing(2).fill(1, 3).fill(3, 2)
            .breaking(4, 3, 4, 5).breaking(5, 3, 4, 5).killing(1, 3);
        due("no place at first", behind.count(9), 0);
        due("words that come as others leave their rows", behind.calm(), 3);
        due("so many ticks", behind.tick(3), 5);
        due("none waits", behind.count(4), 0);
        Counted third = Counted.of(0, 0, 1, 1, 0, 0).electing(0).electing(2).fill(1, 3).fill(3, 1)
            .breaking(4, 3, 4, 5).breaking(5, 0, 1, 3, 4, 5).killing(1, 3);
        due("a word that finds no place but by the third tick", third.calm(), 3);
        due("two ticks", third.tick(2), 2);
        due("it waits still", third.wordOf(3, 0), 1);
        due("the third tick", third.tick(1), 2);
        due("it came to chip 5", third.wordOf(3, 1), 5);
        // Family 0 finds no place by the first tick; the word of family 1 leaves one for it.
        Counted later = Counted.of(0, 0, 1, 1, 1, 1).electing(0).electing(2).fill(1, 1).fill(3, 1)
            .breaking(4, 1, 2, 3, 4, 5).breaking(5, 1, 2, 3, 4, 5).killing(1, 3);
        due("the word of family 0 by the second tick", later.calm(), 2);
        due("the first tick", later.tick(1) * 10 + later.wordOf(0, 0), 11);
        due("the second tick", later.tick(1) * 10 + later.wordOf(0, 0), 10);
        due("at the last time", at(100000).killing(1).calm(), 1);
        due("one tick ahead of the last time, three ticks", Counted.of(0, 0, 0).electing(0).fill(1, 3).later(99999)
            .killing(1).calm(), 3);
        refused("the ticks themselves are refused there", () -> at(100000).killing(1), y -> y.tick(1), LIMIT);

        says(19, "Returns the ticks, 0 if none waits; NOT_FOUND if some word would wait for good.");
        due("without chips", new Counted().calm(), 0);
        due("none waits", Counted.of(0, 0).electing(0).fill(1, 6).calm(), 0);
        due("lost ones wait no more", waiting(3).killing(0).calm(), 0);
        refused("no place at all", () -> waiting(1), Counted::calm, MISSING);
        refused("a place too few", () -> waiting(3, 1).fill(2, 4), Counted::calm, MISSING);
        due("a place for each", waiting(3, 1).fill(2, 3).calm(), 3);
        refused("the first in the way of the second", () -> waiting(2, 0).breaking(2, 0, 2, 3, 4, 5),
            Counted::calm, MISSING);
        refused("one family's come, another's do not", () -> Counted.of(0, 0, 1, 1, 2).electing(0).electing(2).fill(1, 3)
            .fill(3, 3).fill(4, 1).killing(1, 3), Counted::calm, MISSING);
        due("eighteen that wait", Counted.of(0, 0, 1, 1, 2, 2).electing(0).electing(2).electing(4).fill(1, 6).fill(3, 6)
            .fill(5, 6).killing(1, 3, 5).calm(), MISSING);
        changesNothing("calm()", Edges::rich, Counted::calm);
    }

    private static void heir() {
        says(20, "`family`: 0 to 2");
        for (int family = 0; family <= 2; family++) {
            due("heir(" + family + ")", Counted.of(2, 1, 0).heir(family), 2 - family);
        }
        refusedFor("family", Edges::rich, Counted::heir, INVALID, -1, 3, LEAST, MOST);
        refusedFor("family without chips", Counted::new, Counted::heir, INVALID, -1, 3);

        says(20, "Finds the chip of a family that could be elected, or could be behind empty(), if that is possible now,"
            + " with the fewest words; of several the one with the lowest number.");
        due("one without words", Counted.of(1, 0).heir(0), 1);
        due("the lowest of several without words", Counted.of(1, 0, 0, 0).heir(0), 1);
        due("one without words behind one with a word", Counted.of(0, 0).puts(0, 1).heir(0), 1);
        due("the lowest of several with one word", Counted.of(0, 0, 0).puts(0, 1, 2).puts(1, 3).puts(2, 4).heir(0), 1);
        due("the last of eight", Counted.of(0, 0, 0, 0, 0, 0, 0, 0).fill(0, 2).fill(1, 1).fill(2, 1).fill(3, 1).fill(4, 1)
            .fill(5, 1).fill(6, 1).heir(0), 7);
        due("six words, six places elsewhere", Counted.of(0, 1).fill(0, 6).heir(0), 0);
        due("six words, five places elsewhere", Counted.of(0, 1).fill(0, 6).fill(1, 1).heir(0), MISSING);
        due("no words, no place elsewhere", Counted.of(0).heir(0), 0);
        due("no words, all rows broken", Counted.of(0).breaking(0, 0, 1, 2, 3, 4, 5).heir(0), 0);
        due("fewer words, but no place for them", Counted.of(0, 0).fill(0, 3).fill(1, 2).breaking(0, 3, 4, 5).heir(0), 0);
        due("fewer words, a place for one of them", Counted.of(0, 0).fill(0, 3).fill(1, 2).breaking(0, 4, 5).heir(0), 0);
        due("fewer words, a place for both", Counted.of(0, 0).fill(0, 3).fill(1, 2).breaking(0, 5).heir(0), 1);
        due("a dead one without words", Counted.of(0, 0).puts(1, 1).killing(0).adding(1, 0).heir(0), 1);
        changesNothing("heir(1)", () -> rich().adding(1, 0), y -> y.heir(1));
        due("words are where they were", Counted.of(0, 1).fill(0, 3).heir(0), 0);

        says(20, "Returns the number of the chip; INVALID_ARGUMENT; NOT_POSSIBLE if the family has a godfather; NOT_FOUND"
            + " if there is none.");
        refusedFor("family with a godfather", Edges::rich, Counted::heir, IMPOSSIBLE, 0);
        refused("a family of its godfather alone", () -> Counted.of(0).electing(0), y -> y.heir(0), IMPOSSIBLE);
        refused("a family without chips", Edges::rich, y -> y.heir(2), MISSING);
        refused("a family whose chips are dead", () -> Counted.of(0, 1).killing(0), y -> y.heir(0), MISSING);
        refused("a family whose chip can't be emptied", () -> Counted.of(0).puts(0, 1), y -> y.heir(0), MISSING);
        refused("a family whose godfather died", () -> waiting(1).killing(0), y -> y.heir(0), MISSING);
        due("rich", rich().heir(1), 3);
    }

    private static void count() {
        says(21, "Returns a number.");
        for (int each = 0; each <= 11; each++) {
            int what = each;
            changesNothing("count(" + what + ")", Edges::rich, y -> y.count(what));
        }

        says(21, "`what`: 0: chips; 1: chips that live; 2: words; 3: words that are kept; 4: words that wait; 5: words that"
            + " are lost; 6: the time; 7: words raised by ticks so far; 8: families that have a godfather; 9: places of all"
            + " chips; 10: states in the history; 11: the length of the text");
        int[] due = {6, 4, 7, 3, 3, 1, 3, 0, 1, 3 + 3 + 3, 4, 3};
        Counted x = rich();
        for (int what = 0; what <= 11; what++) {
            due("count(" + what + ")", x.count(what), due[what]);
        }
        Counted most = Counted.of(0, 0, 0, 0, 0, 0, 0, 0);
        due("48 places", most.count(9), 48);
        due("8 chips that live", most.count(1), 8);
        most.fill(0, 6).fill(1, 6).fill(2, 6).fill(3, 6);
        due("24 places", most.count(9), 24);
        due("24 words that are kept", most.count(3), 24);
        most.killing(0, 1, 2, 3);
        due("24 words that are lost", most.count(5), 24);
        due("24 words", most.count(2), 24);
        due("4 chips that live", most.count(1), 4);
        Counted waits = Counted.of(0, 0, 1, 1, 2, 2).electing(0).electing(2).electing(4).fill(1, 6).fill(3, 6).fill(5, 6)
            .killing(1, 3, 5);
        due("18 words that wait", waits.count(4), 18);
        due("3 godfathers", waits.count(8), 3);
        due("none is kept", waits.count(3), 0);
        due("no place", waits.count(9), 0);
        waits.killing(0, 2, 4);
        due("18 words that are lost", waits.count(5), 18);
        due("no godfather", waits.count(8), 0);
        due("a word that was raised twice", waiting(1, 0, 0).ticking(1).killing(2).ticking(1).count(7), 2);
        due("words that were carried were not raised", Counted.of(0, 1).puts(0, 1).carrying(0, 1).count(7), 0);

        says(21, "Returns the number; INVALID_ARGUMENT if what is out of range.");
        refusedFor("what", Edges::rich, Counted::count, INVALID, -1, 12, LEAST, MOST);
        refusedFor("what without chips", Counted::new, Counted::count, INVALID, -1, 12);
    }

    static void all() {
        familyOf();
        tick();
        loss();
        safe();
        worstTwo();
        calm();
        heir();
        count();
    }
}
