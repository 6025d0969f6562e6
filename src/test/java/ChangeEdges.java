/** The boundaries of changes: the history and undo (promise 22), and which error comes before which. */
final class ChangeEdges extends Edges {

    private static void changes() {
        says(0, "The changes are the calls of chip, elect, put, write, carry, empty, kill, breaks, tick and play that return"
            + " no error.");
        Made few = () -> Counted.of(0, 0, 1).puts(1, 5).text("t1;");
        change("chip", few, x -> x.chip(2, 1), 3);
        change("elect", few, x -> x.elect(0), 6);
        change("put", few, x -> x.put(2, 5), 1);
        change("write of the same", few, x -> x.write(0, 5), 5);
        change("carry", few, x -> x.carry(0, 0), 0);
        change("empty of an empty one", few, x -> x.empty(0), 0);
        change("empty", few, x -> x.empty(1), 1);
        change("kill of an empty one", few, x -> x.kill(0), 0);
        change("kill", few, x -> x.kill(1), 1);
        change("breaks of an empty row", few, x -> x.breaks(1, 5), 0);
        change("breaks", few, x -> x.breaks(1, 0), 1);
        change("tick", few, x -> x.tick(1), 0);
        change("play", few, Counted::play, 1);
        // At 4 and at 3 states.
        for (Made made : new Made[] {() -> rich().adding(1, 0), () -> rich().adding(1, 0).undoing(2).adding(1, 0)}) {
            int waits = made.now().count(4);
            change("chip", made, x -> x.chip(2, 1), made.now().count(0));
            change("elect", made, x -> x.elect(made.now().heir(1)), 6);
            change("put", made, x -> x.put(2, 5), 7);
            change("write of the same", made, x -> x.write(3, 44), 44);
            change("carry", made, x -> x.carry(3, 5), waits);
            change("empty of an empty one", made, x -> x.empty(5), 0);
            change("kill of an empty one", made, x -> x.kill(5), 0);
            change("breaks of an empty row", made, x -> x.breaks(5, 5), 0);
            change("tick", made, x -> x.tick(1), waits > 0 ? 1 : 0);
            change("play", made, Counted::play, 1);
        }
        for (Made none : new Made[] {Counted::new, () -> Counted.of(0).undoing(1)}) {
            change("chip", none, x -> x.chip(0, 0), 0);
            change("tick", none, x -> x.tick(1), 0);
            change("play", none, Counted::play, 0);
        }
        Call[] told = {
            x -> x.chipOf(0, 0), x -> x.rowOf(2, 0), x -> x.read(0), x -> x.wordOf(0, 0), x -> x.familyOf(0, 0),
            x -> x.loss(0, 2), Counted::safe, x -> x.worstTwo(0), Counted::calm, x -> x.heir(1), x -> x.count(0),
            x -> x.fault(0)};
        for (int call = 0; call < told.length; call++) {
            changesNothing("call " + call + " that only tells", Edges::rich, told[call]);
            changesNothing("call " + call + " that only tells", () -> rich().undoing(2), told[call]);
        }
        Counted typed = rich();
        typed.type('x');
        typed.clearText();
        due("typing and clearing are no changes", typed.count(10), 4);
        due("undo() behind them", typed.undo(), 3);
        due("the change that is undone", typed.chipOf(1, 1), 1);
    }

    private static void history() {
        says(0, "A history of at most 4 states is kept: each change records everything before it but the text, and if there"
            + " are 5 states then, the oldest one is dropped.");
        for (int changes = 0; changes <= 9; changes++) {
            Counted x = new Counted();
            for (int i = 0; i < changes; i++) {
                x.ticking(1);
            }
            int states = Math.min(changes, 4);
            due("states behind " + changes, x.count(10), states);
            for (int left = states - 1; left >= 0; left--) {
                due("undo()", x.undo(), left);
                due("the time", x.count(6), changes - states + left);
                due("states", x.count(10), left);
            }
            due("undo() of none", x.undo(), IMPOSSIBLE);
            due("the time", x.count(6), changes - states);
        }
        // What is dropped stays dropped, and what is undone makes room.
        Counted y = new Counted().ticking(1).ticking(2).ticking(3).ticking(4).ticking(5);
        due("undo()", y.undo(), 3);
        due("a change", y.ticking(10).count(10), 4);
        due("the time", y.count(6), 20);
        due("another one", y.ticking(20).count(10), 4);
        int[] times = {20, 10, 6, 3};
        for (int i = 0; i < 4; i++) {
            due("undo()", y.undo(), 3 - i);
            due("the time", y.count(6), times[i]);
        }
        due("undo()", y.undo(), IMPOSSIBLE);
        Counted text = new Counted().text("a").ticking(1).text("abc");
        text.undo();
        due("the text is not recorded", text.count(11), 3);
        text.text("");
        text.ticking(1).undoing(1);
        due("the text is not recorded", text.count(11), 0);
        refused("an error at a full history", Edges::rich, x -> x.kill(1), IMPOSSIBLE);
        refused("an error at three states", () -> Counted.of(0, 0, 0), x -> x.kill(3), INVALID);
        refused("an error at no state", Counted::new, x -> x.kill(0), INVALID);
    }

    private static void undo() {
        says(22, "Restores the latest state of the history, which is removed from it.");
        Made[] made = {
            Counted::new, () -> Counted.of(0), () -> Counted.of(0, 0).electing(0), () -> Counted.of(0, 0).electing(0).puts(1, 5),
            () -> Counted.of(0, 0).electing(0).puts(1, 5).killing(1), Edges::rich, Edges::allWords, () -> waiting(6, 0, 1)};
        for (Made each : made) {
            Counted x = each.now();
            String before = x.seen();
            Counted y = each.now().ticking(100);
            y.undo();
            same("undo() of ticks", y.seen(), before);
            if (each.now().count(0) > 0) {
                Counted dead = each.now().killing(0);
                dead.undo();
                same("undo() of a death", dead.seen(), before);
            }
            Counted chip = each.now().adding(2, 2);
            chip.undo();
            same("undo() of a chip", chip.seen(), before);
        }
        // The last chip, the last word, the last of a queue.
        Counted chips = new Counted();
        for (int chip = 0; chip < 8; chip++) {
            chips.adding(chip % 3, 2);
        }
        chips.breaking(7, 5, 5, 5, 4);
        due("broken rows of the eighth chip", chips.chipOf(7, 5) * 10 + chips.chipOf(7, 6), 480);
        due("undo()", chips.undo() * 1000 + chips.chipOf(7, 5) * 10 + chips.chipOf(7, 6), 3320);
        due("undo()", chips.undo() * 1000 + chips.chipOf(7, 5) * 10 + chips.chipOf(7, 6), 2000);
        due("undo()", chips.undo() * 1000 + chips.chipOf(7, 5) * 10 + chips.chipOf(7, 6), 1001);
        due("undo()", chips.undo() * 1000 + chips.chipOf(7, 5) * 10 + chips.chipOf(7, 6), 2);
        Made last = () -> Counted.of(0, 1, 1, 1, 0, 0).electing(0).fill(1, 6).fill(2, 6).fill(3, 6).fill(4, 5).puts(5, 99)
            .killing(5);
        Counted raised = last.now().ticking(1);
        due("the 24th word is raised", raised.wordOf(23, 5) * 10 + raised.wordOf(23, 1), 14);
        raised.undoing(1);
        due("and is not behind undo()", raised.wordOf(23, 5) * 10 + raised.wordOf(23, 0), 1);
        same("nor is anything else", raised.seen(), last.now().seen());
        Counted again = waiting(2, 0).ticking(1).undoing(1);
        due("undo() of a raise", again.wordOf(0, 0) * 10 + again.wordOf(0, 5), 10);
        due("the queue", again.familyOf(0, 6) * 10 + again.familyOf(0, 2), 2);
        due("done again", again.tick(1) * 10 + again.wordOf(0, 5), 11);
        Counted two = Counted.of(0, 0, 0).electing(0).puts(1, 1).puts(2, 2).killing(1).killing(2).undoing(1);
        due("undo() of a second death", two.wordOf(0, 0) * 10 + two.wordOf(1, 0), 10);
        due("then of the first one", two.undo() * 100 + two.wordOf(0, 0) * 10 + two.wordOf(1, 0), 200);
        Counted spare = new Counted().adding(0, 1).puts(0, 9).breaking(0, 0).undoing(1);
        due("undo() of a spare row", spare.chipOf(0, 6) * 100 + spare.read(0), 109);

        says(22, "Returns the number of states that are left in the history; NOT_POSSIBLE if it is empty.");
        refused("undo() of a new object", Counted::new, Counted::undo, IMPOSSIBLE);
        refused("undo() of a text alone", () -> new Counted().text("t1;"), Counted::undo, IMPOSSIBLE);
        refused("undo() behind one too many", () -> Counted.of(0, 0).undoing(2), Counted::undo, IMPOSSIBLE);
        refused("undo() behind four of rich", () -> rich().undoing(4), Counted::undo, IMPOSSIBLE);
        due("of one", Counted.of(0).undo(), 0);
        due("of four", Counted.of(0, 0, 0, 0).undo(), 3);
        due("of five", Counted.of(0, 0, 0, 0, 0).undo(), 3);
        due("undo() is no change", Counted.of(0, 0, 0).undoing(1).count(10), 2);
    }

    // ---- errors

    private static void severalErrors() {
        says(0, "If several errors apply to a call, INVALID_ARGUMENT is returned rather than NOT_POSSIBLE, NOT_POSSIBLE rather"
            + " than LIMIT_REACHED, and LIMIT_REACHED rather than NOT_FOUND.");
        Made eight = () -> Counted.of(0, 0, 0, 0, 1, 1, 2, 2);
        refused("chip: no family, 8 chips", eight, x -> x.chip(3, 0), INVALID);
        refused("chip: no spare rows, 8 chips", eight, x -> x.chip(0, -1), INVALID);
        refused("breaks: no row, a dead chip", Edges::rich, x -> x.breaks(1, -1), INVALID);
        refused("breaks: no chip, no row", Edges::rich, x -> x.breaks(6, 6), INVALID);
        refused("rowOf: no row, a dead chip", Edges::rich, x -> x.rowOf(1, 6), INVALID);
        refused("rowOf: a dead chip that keeps none", Edges::rich, x -> x.rowOf(4, 5), IMPOSSIBLE);
        refused("rowOf: a broken row that keeps none", Edges::rich, x -> x.rowOf(3, 5), IMPOSSIBLE);
        refused("put: no value, a dead chip", Edges::rich, x -> x.put(1, -1), INVALID);
        refused("put: no value, 24 words", Edges::allWords, x -> x.put(4, 256), INVALID);
        refused("put: a full chip, 24 words", Edges::allWords, x -> x.put(0, 0), IMPOSSIBLE);
        refused("put: a dead chip, 24 words", () -> allWords().killing(3), x -> x.put(3, 0), IMPOSSIBLE);
        refused("put: a godfather, 24 words", () -> allWords().electing(4), x -> x.put(4, 0), IMPOSSIBLE);
        refused("put: no value, a full chip, 24 words", Edges::allWords, x -> x.put(0, 256), INVALID);
        refused("write: no value, a lost word", Edges::rich, x -> x.write(6, 256), INVALID);
        refused("write: no word, no value", Edges::rich, x -> x.write(7, 256), INVALID);
        refused("carry: no chip, a lost word", Edges::rich, x -> x.carry(6, 6), INVALID);
        refused("carry: no word, a dead chip", Edges::rich, x -> x.carry(-1, 1), INVALID);
        refused("wordOf: nothing, a lost word", Edges::rich, x -> x.wordOf(6, 6), INVALID);
        refused("familyOf: nothing, an empty family", Edges::rich, x -> x.familyOf(2, 7), INVALID);
        Made late = () -> Counted.of(0).later(100000);
        refused("tick: no ticks, the last time", late, x -> x.tick(0), INVALID);
        refused("tick: too many ticks, the last time", late, x -> x.tick(101), INVALID);
        refused("loss: the same one, dead", Edges::rich, x -> x.loss(1, 1), INVALID);
        refused("loss: a dead one, no chip", Edges::rich, x -> x.loss(1, 6), INVALID);
        refused("loss: no chip, a dead one", Edges::rich, x -> x.loss(-1, 1), INVALID);
        refused("worstTwo: nothing, no chips", Counted::new, x -> x.worstTwo(2), INVALID);
        refused("heir: a godfather, no other chip", () -> Counted.of(0).electing(0), x -> x.heir(0), IMPOSSIBLE);
        refused("heir: no family", Counted::new, x -> x.heir(3), INVALID);
        Made full = () -> Counted.of(0).text("t1;t1;t1;t1;t1;t1;t1;t1;t1;t1;t1;t1;t1;t1;t1;t1;t1;t1;t1;t1;");
        refused("type: no character, 60 characters", full, x -> x.type(127), INVALID);
        refused("fault: nothing, no fault", Edges::rich, x -> x.fault(2), INVALID);
    }

    private static void noSuchNumber() {
        says(0, "If there is no chip or word with a certain number, this is INVALID_ARGUMENT.");
        CallWith[] ofChips = {
            Counted::elect, Counted::kill, (x, chip) -> x.breaks(chip, 0), (x, chip) -> x.chipOf(chip, 0),
            (x, chip) -> x.rowOf(chip, 0), (x, chip) -> x.put(chip, 0), (x, chip) -> x.carry(0, chip), Counted::empty,
            (x, chip) -> x.loss(chip, 0), (x, chip) -> x.loss(chip, -1)};
        CallWith[] ofWords = {
            (x, word) -> x.write(word, 0), Counted::read, (x, word) -> x.carry(word, 0), (x, word) -> x.wordOf(word, 0)};
        for (int count = 1; count <= 7; count++) {
            int[] families = new int[count];
            for (CallWith call : ofChips) {
                int next = count;
                due("chip " + next, call.on(Counted.of(families).fill(0, 1), next), INVALID);
                due("chip -1", call.on(Counted.of(families).fill(0, 1), -1), INVALID);
                refused("chip " + next, () -> Counted.of(families).fill(0, 1), x -> call.on(x, next), INVALID);
            }
            due("the last one", Counted.of(families).chipOf(count - 1, 1), 1);
        }
        for (int count = 1; count <= 6; count++) {
            int next = count;
            for (CallWith call : ofWords) {
                refused("word " + next, () -> Counted.of(0, 0).fill(1, next), x -> call.on(x, next), INVALID);
            }
            due("the last one", Counted.of(0, 0).fill(1, next).read(count - 1), 0);
        }
        refused("a word that undo() took back", () -> Counted.of(0).puts(0, 1).undoing(1), x -> x.read(0), INVALID);
        refused("a chip that undo() took back", () -> Counted.of(0, 0).undoing(1), x -> x.kill(1), INVALID);
    }

    /** Every call with every argument that is near a boundary: if it answers an error, nothing is changed. */
    private static void errorsChangeNothing() {
        says(0, "A call that returns an error changes nothing.");
        int[] near = {LEAST, -2, -1, 0, 1, 2, 3, 4, 5, 6, 7, 8, 100, 101, 255, 256, MOST};
        Made[] states = {Edges::rich, () -> rich().text("k5;p2,1;k5;")};
        for (Made made : states) {
            for (int a : near) {
                one("elect " + a, made, x -> x.elect(a));
                one("kill " + a, made, x -> x.kill(a));
                one("empty " + a, made, x -> x.empty(a));
                one("tick " + a, made, x -> x.tick(a));
                one("heir " + a, made, x -> x.heir(a));
                one("type " + a, made, x -> x.type(a));
                for (int b : near) {
                    one("chip " + a + " " + b, made, x -> x.chip(a, b));
                    one("breaks " + a + " " + b, made, x -> x.breaks(a, b));
                    one("put " + a + " " + b, made, x -> x.put(a, b));
                    one("write " + a + " " + b, made, x -> x.write(a, b));
                    one("carry " + a + " " + b, made, x -> x.carry(a, b));
                    one("loss " + a + " " + b, made, x -> x.loss(a, b));
                }
            }
            one("play", made, Counted::play);
        }
    }

    private static void one(String call, Made made, Call asked) {
        Counted x = made.now();
        int states = x.count(10);
        if (asked.on(x) >= 0) {
            return;
        }
        due("count(10) behind " + call, x.count(10), states);
        Counted same = made.now();
        same(call, x.seen(), same.seen());
        due("undo() behind " + call, x.undo(), same.undo());
        due("the words behind undo() of " + call, x.count(4), same.count(4));
    }

    static void all() {
        changes();
        history();
        undo();
        severalErrors();
        noSuchNumber();
        errorsChangeNothing();
    }
}
