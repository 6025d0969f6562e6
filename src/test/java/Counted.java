/** A GodChips that counts its calls, as nothing is promised behind the 512th of an object. */
final class Counted {
    private static final int CALLS = 512;

    private final GodChips chips = new GodChips();
    private int calls;

    /** Chips without spare rows, one of each family told. */
    static Counted of(int... families) {
        Counted x = new Counted();
        for (int family : families) {
            x.chip(family, 0);
        }
        return x;
    }

    private int counted(int answer) {
        calls++;
        if (calls > CALLS) {
            throw new IllegalStateException("a test makes more than " + CALLS + " calls of an object");
        }
        return answer;
    }

    int calls() {
        return calls;
    }

    int chip(int family, int spares) {
        return counted(chips.chip(family, spares));
    }

    int elect(int chip) {
        return counted(chips.elect(chip));
    }

    int kill(int chip) {
        return counted(chips.kill(chip));
    }

    int breaks(int chip, int row) {
        return counted(chips.breaks(chip, row));
    }

    int chipOf(int chip, int what) {
        return counted(chips.chipOf(chip, what));
    }

    int rowOf(int chip, int row) {
        return counted(chips.rowOf(chip, row));
    }

    int put(int chip, int value) {
        return counted(chips.put(chip, value));
    }

    int write(int word, int value) {
        return counted(chips.write(word, value));
    }

    int read(int word) {
        return counted(chips.read(word));
    }

    int carry(int word, int chip) {
        return counted(chips.carry(word, chip));
    }

    int empty(int chip) {
        return counted(chips.empty(chip));
    }

    int wordOf(int word, int what) {
        return counted(chips.wordOf(word, what));
    }

    int familyOf(int family, int what) {
        return counted(chips.familyOf(family, what));
    }

    int tick(int ticks) {
        return counted(chips.tick(ticks));
    }

    int loss(int first, int second) {
        return counted(chips.loss(first, second));
    }

    int safe() {
        return counted(chips.safe());
    }

    int worstTwo(int what) {
        return counted(chips.worstTwo(what));
    }

    int calm() {
        return counted(chips.calm());
    }

    int heir(int family) {
        return counted(chips.heir(family));
    }

    int count(int what) {
        return counted(chips.count(what));
    }

    int undo() {
        return counted(chips.undo());
    }

    int type(int character) {
        return counted(chips.type(character));
    }

    int clearText() {
        return counted(chips.clearText());
    }

    int fault(int what) {
        return counted(chips.fault(what));
    }

    int play() {
        return counted(chips.play());
    }

    // What tests do often

    /** Puts words with these values, which must be possible. */
    Counted puts(int chip, int... values) {
        for (int value : values) {
            sure(put(chip, value));
        }
        return this;
    }

    /** As many words with the value 0. */
    Counted fill(int chip, int words) {
        return puts(chip, new int[words]);
    }

    Counted electing(int chip) {
        sure(elect(chip));
        return this;
    }

    Counted killing(int... dying) {
        for (int chip : dying) {
            sure(kill(chip));
        }
        return this;
    }

    Counted breaking(int chip, int... rows) {
        for (int row : rows) {
            sure(breaks(chip, row));
        }
        return this;
    }

    Counted adding(int family, int spares) {
        sure(chip(family, spares));
        return this;
    }

    Counted carrying(int word, int chip) {
        sure(carry(word, chip));
        return this;
    }

    Counted ticking(int ticks) {
        sure(tick(ticks));
        return this;
    }

    Counted undoing(int times) {
        for (int i = 0; i < times; i++) {
            sure(undo());
        }
        return this;
    }

    /** The text is this one then. */
    Counted text(String text) {
        clearText();
        for (int i = 0; i < text.length(); i++) {
            sure(type(text.charAt(i)));
        }
        return this;
    }

    /** Lets that many ticks go by, in few calls; the text is empty then. */
    Counted later(int ticks) {
        text("t100;t100;t100;t100;t100;t100;t100;t100;t100;t100;t100;t100;");
        int left = ticks;
        for (; left >= 1200; left -= 1200) {
            sure(play());
        }
        for (; left >= 100; left -= 100) {
            sure(tick(100));
        }
        if (left > 0) {
            sure(tick(left));
        }
        clearText();
        return this;
    }

    private static void sure(int answer) {
        if (answer < 0) {
            throw new IllegalStateException("a test makes a call that is not possible: " + answer);
        }
    }

    /** All that can be told but for the states in the history, in at most 325 calls. */
    String seen() {
        StringBuilder all = new StringBuilder();
        for (int what = 0; what <= 11; what++) {
            if (what != 10) {
                all.append(" count").append(what).append('=').append(count(what));
            }
        }
        for (int family = 0; family < 3; family++) {
            for (int what = 0; what <= 6; what++) {
                all.append(" familyOf").append(what).append('=').append(familyOf(family, what));
            }
            all.append(" heir ").append(heir(family));
        }
        int chipsNow = count(0);
        for (int chip = 0; chip < chipsNow; chip++) {
            for (int what = 0; what <= 6; what++) {
                all.append(" chipOf").append(what).append('=').append(chipOf(chip, what));
            }
            for (int row = 0; row < 6; row++) {
                all.append(" rowOf").append(row).append('=').append(rowOf(chip, row));
            }
        }
        int wordsNow = count(2);
        for (int word = 0; word < wordsNow; word++) {
            all.append(" read ").append(read(word));
            for (int what = 0; what <= 5; what++) {
                all.append(" wordOf").append(what).append('=').append(wordOf(word, what));
            }
        }
        all.append(" safe ").append(safe());
        all.append(" worstTwo ").append(worstTwo(0)).append(' ').append(worstTwo(1));
        all.append(" calm ").append(calm());
        all.append(" fault ").append(fault(0)).append(' ').append(fault(1));
        return all.toString();
    }
}
