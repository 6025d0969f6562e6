import java.util.Arrays;

/**
 * Memory words on chips of families. A family's godfather keeps no words but the sum of each row
 * of its family, by which the words of a chip that dies are raised and come to other chips.
 *
 * <p>Every change is done on a trial state first and becomes the present one only if it is
 * possible; so a call that returns an error changes nothing, and what would be lost is found by
 * the same code that loses it. All states are made by the constructor and used again.
 */
public final class GodChips {
    /** An argument is out of its range, or there is no such chip or word. */
    public static final int INVALID_ARGUMENT = -1000001;
    /** The call is not possible in the present state. */
    public static final int NOT_POSSIBLE = -1000002;
    /** A fixed limit has been reached. */
    public static final int LIMIT_REACHED = -1000003;
    /** There is no such value. */
    public static final int NOT_FOUND = -1000004;

    private static final int FAMILIES = 3;
    private static final int CHIPS = 8;
    private static final int ROWS = 6;
    private static final int ALL_ROWS = (1 << ROWS) - 1;
    private static final int MOST_SPARES = 2;
    private static final int WORDS = 24;
    private static final int HIGHEST_VALUE = 255;
    private static final int MOST_TICKS = 100;
    private static final int LAST_TIME = 100000;
    private static final int TEXT_LENGTH = 60;
    private static final int STATES = 4;
    private static final int NONE = -1;

    private static final int KEPT = 0;
    private static final int WAITS = 1;
    private static final int LOST = 2;

    private static final int NO_FAULT = 0;
    private static final int WRONG_FORM = 1;
    private static final int NO_SUCH_CHIP = 2;
    private static final int ORDER_NOT_POSSIBLE = 3;

    private final Memory[] history;
    private final Orders orders;
    private Memory present;
    private Memory trial;
    private int states;

    /** Creates a memory without chips, at the time 0. */
    public GodChips() {
        history = new Memory[STATES];
        for (int state = 0; state < STATES; state++) {
            history[state] = new Memory();
        }
        orders = new Orders();
        present = new Memory();
        trial = new Memory();
        states = 0;
    }

    // ---- chips

    /** Adds a chip, which lives and is no godfather; returns its number. */
    public int chip(int family, int spares) {
        return settle(freshTrial().addChip(family, spares));
    }

    /** Makes a chip the godfather of its family; returns how many rows are guarded then. */
    public int elect(int chip) {
        return settle(freshTrial().makeGodfather(chip));
    }

    /** Lets a chip die; returns how many words are lost by it. */
    public int kill(int chip) {
        return settle(freshTrial().letDie(chip));
    }

    /** Lets a row of a chip break; returns how many words are lost by it. */
    public int breaks(int chip, int row) {
        return settle(freshTrial().breakRow(chip, row));
    }

    /** Returns something of a chip. */
    public int chipOf(int chip, int what) {
        if (!present.hasChip(chip)) {
            return INVALID_ARGUMENT;
        }
        switch (what) {
            case 0: return present.family[chip];
            case 1: return present.lives(chip) ? 1 : 0;
            case 2: return present.isGodfather(chip) ? 1 : 0;
            case 3: return present.keptBy(chip);
            case 4: return Integer.bitCount(present.placeSet(chip));
            case 5: return present.broken[chip];
            case 6: return present.spares[chip];
            default: return INVALID_ARGUMENT;
        }
    }

    /** Returns the number of the word that a chip keeps in a row, or the sum, if it is a godfather. */
    public int rowOf(int chip, int row) {
        if (!present.hasChip(chip) || !isRow(row)) {
            return INVALID_ARGUMENT;
        }
        if (!present.lives(chip) || present.isBroken(chip, row)) {
            return NOT_POSSIBLE;
        }
        if (present.isGodfather(chip)) {
            return present.sumOf(present.family[chip], row);
        }
        int word = present.kept[chip * ROWS + row];
        return word == NONE ? NOT_FOUND : word;
    }

    // ---- words

    /** Puts a new word into the lowest place of a chip; returns the number of the word. */
    public int put(int chip, int value) {
        return settle(freshTrial().putWord(chip, value));
    }

    /** Gives a word that is kept another value; returns its value before. */
    public int write(int word, int value) {
        return settle(freshTrial().writeWord(word, value));
    }

    /** Returns the value of a word, whether it is kept or waits. */
    public int read(int word) {
        if (!present.hasWord(word)) {
            return INVALID_ARGUMENT;
        }
        return present.fateOf(word) == LOST ? NOT_FOUND : present.value[word];
    }

    /** Carries a word to the lowest place of another chip; returns the row. */
    public int carry(int word, int chip) {
        return settle(freshTrial().carryWord(word, chip));
    }

    /** Carries all words of a chip to other chips; returns how many they are. */
    public int empty(int chip) {
        return settle(freshTrial().emptyChip(chip));
    }

    /** Returns something of a word. */
    public int wordOf(int word, int what) {
        if (!present.hasWord(word)) {
            return INVALID_ARGUMENT;
        }
        int fate = present.fateOf(word);
        switch (what) {
            case 0: return fate;
            case 1: return fate == KEPT ? present.wordChip[word] : NOT_FOUND;
            case 2: return fate == LOST ? NOT_FOUND : present.wordRow[word];
            case 3: return fate == LOST ? NOT_FOUND : present.wordFamily[word];
            case 4: return fate == WAITS ? present.aheadOf(word) : NOT_FOUND;
            case 5: return present.raised[word];
            default: return INVALID_ARGUMENT;
        }
    }

    // ---- families

    /** Returns something of a family. */
    public int familyOf(int family, int what) {
        if (!isFamily(family)) {
            return INVALID_ARGUMENT;
        }
        int queued = present.queued[family];
        switch (what) {
            case 0: return present.godfather[family] == NONE ? NOT_FOUND : present.godfather[family];
            case 1: return present.livingOf(family);
            case 2: return queued;
            case 3: return present.keptIn(family, ALL_ROWS);
            case 4: return present.guardedRows(family);
            case 5: return present.keptIn(family, ALL_ROWS & ~present.guardedRows(family));
            case 6: return queued == 0 ? NOT_FOUND : present.queue[family * ROWS];
            default: return INVALID_ARGUMENT;
        }
    }

    /** Lets ticks go by; returns how many words are raised. */
    public int tick(int ticks) {
        return settle(freshTrial().goTicks(ticks));
    }

    // ---- what would be

    /** Tells how many words would be lost if chips died one after the other. */
    public int loss(int first, int second) {
        if (!present.hasChip(first) || first == second) {
            return INVALID_ARGUMENT;
        }
        if (second != NONE && !present.hasChip(second)) {
            return INVALID_ARGUMENT;
        }
        if (!present.lives(first) || second != NONE && !present.lives(second)) {
            return NOT_POSSIBLE;
        }
        return lostBy(first, second);
    }

    /** Returns the set of living chips by whose death, each by itself, no word would be lost. */
    public int safe() {
        int set = 0;
        for (int chip = 0; chip < present.chips; chip++) {
            if (present.lives(chip) && lostBy(chip, NONE) == 0) {
                set |= 1 << chip;
            }
        }
        return set;
    }

    /** Finds the two living chips by whose deaths most words would be lost. */
    public int worstTwo(int what) {
        if (what != 0 && what != 1) {
            return INVALID_ARGUMENT;
        }
        int most = NONE;
        int pair = 0;
        for (int first = 0; first < present.chips; first++) {
            for (int second = 0; second < present.chips; second++) {
                if (first != second && present.lives(first) && present.lives(second)) {
                    int lost = lostBy(first, second);
                    if (lost > most) {
                        most = lost;
                        pair = 10 * first + second;
                    }
                }
            }
        }
        if (most == NONE) {
            return NOT_FOUND;
        }
        return what == 0 ? pair : most;
    }

    /** Tells behind how many ticks no word waits any more. */
    public int calm() {
        Memory later = freshTrial();
        // The limit of the time is no limit here.
        later.time = 0;
        // Each tick raises a word at least, or none is raised ever after.
        for (int ticks = 0; ticks <= WORDS; ticks++) {
            if (later.wordsWaiting() == 0) {
                return ticks;
            }
            if (later.goTicks(1) <= 0) {
                return NOT_FOUND;
            }
        }
        return NOT_FOUND;
    }

    /** Finds the chip of a family with the fewest words that could be elected, emptied if need be. */
    public int heir(int family) {
        if (!isFamily(family)) {
            return INVALID_ARGUMENT;
        }
        if (present.godfather[family] != NONE) {
            return NOT_POSSIBLE;
        }
        int heir = NOT_FOUND;
        int fewest = ROWS + 1;
        for (int chip = 0; chip < present.chips; chip++) {
            if (present.family[chip] == family && present.keptBy(chip) < fewest
                    && freshTrial().emptyChip(chip) >= 0) {
                heir = chip;
                fewest = present.keptBy(chip);
            }
        }
        return heir;
    }

    /** Returns a number. */
    public int count(int what) {
        switch (what) {
            case 0: return present.chips;
            case 1: return Integer.bitCount(present.living);
            case 2: return present.words;
            case 3: return present.wordsKept();
            case 4: return present.wordsWaiting();
            case 5: return present.words - present.wordsKept() - present.wordsWaiting();
            case 6: return present.time;
            case 7: return present.raises;
            case 8: return present.godfathers();
            case 9: return present.allPlaces();
            case 10: return states;
            case 11: return orders.length;
            default: return INVALID_ARGUMENT;
        }
    }

    /** Restores the latest state of the history; returns how many states are left in it. */
    public int undo() {
        if (states <= 0) {
            return NOT_POSSIBLE;
        }
        states--;
        present.copyFrom(history[states]);
        return states;
    }

    // ---- texts

    /** Appends a character to the text; returns the length of the text. */
    public int type(int character) {
        if (character < 32 || character > 126) {
            return INVALID_ARGUMENT;
        }
        if (orders.length >= TEXT_LENGTH) {
            return LIMIT_REACHED;
        }
        orders.text[orders.length] = (char) character;
        orders.length++;
        return orders.length;
    }

    /** Empties the text; returns the length it had. */
    public int clearText() {
        int length = orders.length;
        orders.length = 0;
        return length;
    }

    /** Tells the position of the text's fault, or its reason. */
    public int fault(int what) {
        if (what != 0 && what != 1) {
            return INVALID_ARGUMENT;
        }
        orders.doAll(freshTrial());
        if (orders.reason == NO_FAULT) {
            return NOT_FOUND;
        }
        return what == 0 ? orders.start : orders.reason;
    }

    /** Does all orders of the text as one change; returns how many there are in it. */
    public int play() {
        int done = orders.doAll(freshTrial());
        return settle(orders.reason == NO_FAULT ? done : NOT_POSSIBLE);
    }

    // ---- what the calls share

    private static boolean isFamily(int family) {
        return family >= 0 && family < FAMILIES;
    }

    private static boolean isRow(int row) {
        return row >= 0 && row < ROWS;
    }

    private static boolean isValue(int value) {
        return value >= 0 && value <= HIGHEST_VALUE;
    }

    /** The trial state, which is as the present one is. */
    private Memory freshTrial() {
        trial.copyFrom(present);
        return trial;
    }

    /** Keeps what was done on the trial, and the state before it, unless the answer is an error. */
    private int settle(int answer) {
        if (answer < 0) {
            return answer;
        }
        remember();
        Memory before = present;
        present = trial;
        trial = before;
        return answer;
    }

    private void remember() {
        if (states == STATES) {
            Memory oldest = history[0];
            for (int state = 1; state < STATES; state++) {
                history[state - 1] = history[state];
            }
            history[STATES - 1] = oldest;
            states--;
        }
        history[states].copyFrom(present);
        states++;
    }

    private int lostBy(int first, int second) {
        Memory later = freshTrial();
        int lost = later.letDie(first);
        return second == NONE ? lost : lost + later.letDie(second);
    }

    /** A state: chips, words and the time, but neither history nor text. */
    private static final class Memory {
        int chips;
        int living;
        int words;
        int time;
        int raises;
        final int[] family = new int[CHIPS];
        final int[] broken = new int[CHIPS];
        final int[] spares = new int[CHIPS];
        /** The word in each row of each chip, or NONE. */
        final int[] kept = new int[CHIPS * ROWS];
        final int[] godfather = new int[FAMILIES];
        /** The word that waits in each row of each family, or NONE. */
        final int[] waiting = new int[FAMILIES * ROWS];
        /** The words that wait in each family, the first one first. */
        final int[] queue = new int[FAMILIES * ROWS];
        final int[] queued = new int[FAMILIES];
        final int[] value = new int[WORDS];
        /** NONE if the word is not kept. */
        final int[] wordChip = new int[WORDS];
        /** NONE if the word is lost; its family says nothing then. */
        final int[] wordRow = new int[WORDS];
        final int[] wordFamily = new int[WORDS];
        final int[] raised = new int[WORDS];

        Memory() {
            Arrays.fill(kept, NONE);
            Arrays.fill(godfather, NONE);
            Arrays.fill(waiting, NONE);
        }

        void copyFrom(Memory other) {
            chips = other.chips;
            living = other.living;
            words = other.words;
            time = other.time;
            raises = other.raises;
            System.arraycopy(other.family, 0, family, 0, CHIPS);
            System.arraycopy(other.broken, 0, broken, 0, CHIPS);
            System.arraycopy(other.spares, 0, spares, 0, CHIPS);
            System.arraycopy(other.kept, 0, kept, 0, CHIPS * ROWS);
            System.arraycopy(other.godfather, 0, godfather, 0, FAMILIES);
            System.arraycopy(other.waiting, 0, waiting, 0, FAMILIES * ROWS);
            System.arraycopy(other.queue, 0, queue, 0, FAMILIES * ROWS);
            System.arraycopy(other.queued, 0, queued, 0, FAMILIES);
            System.arraycopy(other.value, 0, value, 0, WORDS);
            System.arraycopy(other.wordChip, 0, wordChip, 0, WORDS);
            System.arraycopy(other.wordRow, 0, wordRow, 0, WORDS);
            System.arraycopy(other.wordFamily, 0, wordFamily, 0, WORDS);
            System.arraycopy(other.raised, 0, raised, 0, WORDS);
        }

        // Facts

        boolean hasChip(int chip) {
            return chip >= 0 && chip < chips;
        }

        boolean hasWord(int word) {
            return word >= 0 && word < words;
        }

        boolean lives(int chip) {
            return (living >> chip & 1) == 1;
        }

        boolean isGodfather(int chip) {
            return godfather[family[chip]] == chip;
        }

        boolean isBroken(int chip, int row) {
            return (broken[chip] >> row & 1) == 1;
        }

        int fateOf(int word) {
            if (wordChip[word] != NONE) {
                return KEPT;
            }
            return wordRow[word] != NONE ? WAITS : LOST;
        }

        int guardedRows(int home) {
            int head = godfather[home];
            return head == NONE ? 0 : ALL_ROWS & ~broken[head];
        }

        int livingOf(int home) {
            int set = 0;
            for (int chip = 0; chip < chips; chip++) {
                if (family[chip] == home && lives(chip)) {
                    set |= 1 << chip;
                }
            }
            return set;
        }

        /** The rows of a chip that are places. */
        int placeSet(int chip) {
            int home = family[chip];
            if ((living >> chip & 1) == 0 || godfather[home] == chip) {
                return 0;
            }
            int set = 0;
            for (int row = 0; row < ROWS; row++) {
                if (kept[chip * ROWS + row] == NONE && waiting[home * ROWS + row] == NONE) {
                    set |= 1 << row;
                }
            }
            return set & ~broken[chip];
        }

        int allPlaces() {
            int places = 0;
            for (int chip = 0; chip < chips; chip++) {
                places += Integer.bitCount(placeSet(chip));
            }
            return places;
        }

        /** What the godfather of a family keeps in a row: the sum of the words that belong to it. */
        int sumOf(int home, int row) {
            int sum = 0;
            for (int word = 0; word < words; word++) {
                if (wordFamily[word] == home && wordRow[word] == row) {
                    sum ^= value[word];
                }
            }
            return sum;
        }

        int keptBy(int chip) {
            int sum = 0;
            for (int word = 0; word < words; word++) {
                if (wordChip[word] == chip) {
                    sum++;
                }
            }
            return sum;
        }

        /** How many words are kept in these rows of a family. */
        int keptIn(int home, int rows) {
            int sum = 0;
            for (int word = 0; word < words; word++) {
                if (wordChip[word] != NONE && wordFamily[word] == home && (rows >> wordRow[word] & 1) == 1) {
                    sum++;
                }
            }
            return sum;
        }

        int wordsKept() {
            int sum = 0;
            for (int word = 0; word < words; word++) {
                if (wordChip[word] != NONE) {
                    sum++;
                }
            }
            return sum;
        }

        int wordsWaiting() {
            int sum = 0;
            for (int home = 0; home < FAMILIES; home++) {
                sum += queued[home];
            }
            return sum;
        }

        int godfathers() {
            int sum = 0;
            for (int home = 0; home < FAMILIES; home++) {
                if (godfather[home] != NONE) {
                    sum++;
                }
            }
            return sum;
        }

        /** How many words are ahead of a word that waits. */
        int aheadOf(int word) {
            int home = wordFamily[word];
            int ahead = 0;
            while (ahead < queued[home] && queue[home * ROWS + ahead] != word) {
                ahead++;
            }
            return ahead;
        }

        /**
         * The chip to which a word of a family comes if it is raised, or NONE if there is no place;
         * never the one that is left out.
         */
        int chipFor(int home, int leftOut) {
            int best = NONE;
            int bestRank = 0;
            for (int chip = 0; chip < chips; chip++) {
                int rank = Integer.bitCount(placeSet(chip));
                // A chip of the own family goes before all others, whatever places they have.
                if (rank > 0 && family[chip] == home) {
                    rank += ROWS;
                }
                if (rank > bestRank && chip != leftOut) {
                    best = chip;
                    bestRank = rank;
                }
            }
            return best;
        }

        // Changes: each tests its arguments, and answers an error ahead of changing anything but
        // for emptyChip, which may leave a trial half emptied.

        int addChip(int home, int spareRows) {
            if (!isFamily(home) || spareRows < 0 || spareRows > MOST_SPARES) {
                return INVALID_ARGUMENT;
            }
            if (chips >= CHIPS) {
                return LIMIT_REACHED;
            }
            int chip = chips;
            chips++;
            living |= 1 << chip;
            family[chip] = home;
            spares[chip] = spareRows;
            return chip;
        }

        int makeGodfather(int chip) {
            if (!hasChip(chip)) {
                return INVALID_ARGUMENT;
            }
            if (!lives(chip) || godfather[family[chip]] != NONE || keptBy(chip) > 0) {
                return NOT_POSSIBLE;
            }
            godfather[family[chip]] = chip;
            return Integer.bitCount(guardedRows(family[chip]));
        }

        int letDie(int chip) {
            if (!hasChip(chip)) {
                return INVALID_ARGUMENT;
            }
            if (!lives(chip)) {
                return NOT_POSSIBLE;
            }
            int lost = 0;
            if (isGodfather(chip)) {
                for (int row = 0; row < ROWS; row++) {
                    lost += loseWaiting(family[chip], row);
                }
                godfather[family[chip]] = NONE;
            } else {
                for (int row = 0; row < ROWS; row++) {
                    int word = kept[chip * ROWS + row];
                    lost += loseUnlessSummed(word);
                    letWait(word);
                }
            }
            living &= ~(1 << chip);
            return lost;
        }

        int breakRow(int chip, int row) {
            if (!hasChip(chip) || !isRow(row)) {
                return INVALID_ARGUMENT;
            }
            if (!lives(chip) || isBroken(chip, row)) {
                return NOT_POSSIBLE;
            }
            boolean stoodInFor = spares[chip] > 0;
            if (stoodInFor) {
                spares[chip]--;
            } else {
                broken[chip] |= 1 << row;
            }
            if (isGodfather(chip)) {
                return loseWaiting(family[chip], row);
            }
            int word = kept[chip * ROWS + row];
            int lost = loseUnlessSummed(word);
            if (!stoodInFor) {
                letWait(word);
            }
            return lost;
        }

        int putWord(int chip, int newValue) {
            if (!hasChip(chip) || !isValue(newValue)) {
                return INVALID_ARGUMENT;
            }
            if (placeSet(chip) == 0) {
                return NOT_POSSIBLE;
            }
            if (words >= WORDS) {
                return LIMIT_REACHED;
            }
            int word = words;
            words++;
            value[word] = newValue;
            keepAtLowest(word, chip);
            return word;
        }

        int writeWord(int word, int newValue) {
            if (!hasWord(word) || !isValue(newValue)) {
                return INVALID_ARGUMENT;
            }
            if (wordChip[word] == NONE) {
                return NOT_POSSIBLE;
            }
            int before = value[word];
            value[word] = newValue;
            return before;
        }

        int carryWord(int word, int chip) {
            if (!hasWord(word) || !hasChip(chip)) {
                return INVALID_ARGUMENT;
            }
            if (wordChip[word] == NONE || wordChip[word] == chip || placeSet(chip) == 0) {
                return NOT_POSSIBLE;
            }
            takeFromChip(word);
            keepAtLowest(word, chip);
            return wordRow[word];
        }

        int emptyChip(int chip) {
            if (!hasChip(chip)) {
                return INVALID_ARGUMENT;
            }
            if (!lives(chip) || isGodfather(chip)) {
                return NOT_POSSIBLE;
            }
            int carried = 0;
            for (int row = 0; row < ROWS; row++) {
                int word = kept[chip * ROWS + row];
                if (word != NONE) {
                    int other = chipFor(family[chip], chip);
                    if (other == NONE) {
                        return NOT_POSSIBLE;
                    }
                    takeFromChip(word);
                    keepAtLowest(word, other);
                    carried++;
                }
            }
            return carried;
        }

        int goTicks(int ticks) {
            if (ticks < 1 || ticks > MOST_TICKS) {
                return INVALID_ARGUMENT;
            }
            if (time + ticks > LAST_TIME) {
                return LIMIT_REACHED;
            }
            time += ticks;
            int before = raises;
            for (int tick = 0; tick < ticks; tick++) {
                int soFar = raises;
                for (int home = 0; home < FAMILIES; home++) {
                    raiseFirst(home);
                }
                if (raises == soFar) {
                    // Nothing has changed, so nothing is raised by the ticks behind this one.
                    break;
                }
            }
            return raises - before;
        }

        // Moves of a word

        /** Raises the first word that waits in a family, if there is one and a place for it. */
        private void raiseFirst(int home) {
            if (queued[home] == 0) {
                return;
            }
            int word = queue[home * ROWS];
            int row = home * ROWS + wordRow[word];
            // Its own row may be the place to which it comes.
            waiting[row] = NONE;
            int chip = chipFor(home, NONE);
            if (chip == NONE) {
                waiting[row] = word;
                return;
            }
            leaveQueue(word);
            keepAtLowest(word, chip);
            raised[word]++;
            raises++;
        }

        private void keepAtLowest(int word, int chip) {
            int places = placeSet(chip);
            for (int row = 0; row < ROWS; row++) {
                if ((places >> row & 1) == 1) {
                    kept[chip * ROWS + row] = word;
                    wordChip[word] = chip;
                    wordRow[word] = row;
                    wordFamily[word] = family[chip];
                    return;
                }
            }
        }

        private void takeFromChip(int word) {
            kept[wordChip[word] * ROWS + wordRow[word]] = NONE;
            wordChip[word] = NONE;
        }

        /** Lets a word that its chip can keep no more wait, unless it is none or is lost by now. */
        private void letWait(int word) {
            if (word == NONE || wordChip[word] == NONE) {
                return;
            }
            takeFromChip(word);
            int home = wordFamily[word];
            waiting[home * ROWS + wordRow[word]] = word;
            queue[home * ROWS + queued[home]] = word;
            queued[home]++;
        }

        /** Loses a word that is gone from its chip if the sum of its row does not tell it. */
        private int loseUnlessSummed(int word) {
            if (word == NONE) {
                return 0;
            }
            int home = wordFamily[word];
            int row = wordRow[word];
            boolean guarded = (guardedRows(home) >> row & 1) == 1;
            if (guarded && waiting[home * ROWS + row] == NONE) {
                return 0;
            }
            takeFromChip(word);
            wordRow[word] = NONE;
            return 1 + loseWaiting(home, row);
        }

        private int loseWaiting(int home, int row) {
            int word = waiting[home * ROWS + row];
            if (word == NONE) {
                return 0;
            }
            waiting[home * ROWS + row] = NONE;
            leaveQueue(word);
            wordRow[word] = NONE;
            return 1;
        }

        private void leaveQueue(int word) {
            int home = wordFamily[word];
            int last = queued[home] - 1;
            boolean behind = false;
            for (int place = home * ROWS; place < home * ROWS + last; place++) {
                behind = behind || queue[place] == word;
                if (behind) {
                    queue[place] = queue[place + 1];
                }
            }
            queued[home] = last;
        }
    }

    /** The text, and the order in it that is read. */
    private static final class Orders {
        final char[] text = new char[TEXT_LENGTH];
        int length;
        /** Where the order that was read last begins. */
        int start;
        /** Why that order is not possible, or NO_FAULT. */
        int reason;
        private int next;
        private int letter;
        private int first;
        private int second;

        /** Does the orders, up to the first one that is not possible; tells how many are done. */
        int doAll(Memory memory) {
            int done = 0;
            next = 0;
            reason = NO_FAULT;
            while (done < TEXT_LENGTH && next < length) {
                start = next;
                if (!readOrder()) {
                    reason = WRONG_FORM;
                } else if (letter != 't' && !memory.hasChip(first)) {
                    reason = NO_SUCH_CHIP;
                } else if (doOrder(memory) < 0) {
                    reason = ORDER_NOT_POSSIBLE;
                }
                if (reason != NO_FAULT) {
                    return done;
                }
                done++;
            }
            return done;
        }

        /** Does the order that was read; the answer is that of its call. */
        private int doOrder(Memory memory) {
            switch (letter) {
                case 'k': return memory.letDie(first);
                case 't': return memory.goTicks(first);
                case 'e': return memory.makeGodfather(first);
                case 'v': return memory.emptyChip(first);
                case 'p': return memory.putWord(first, second);
                case 'b': return memory.breakRow(first, second);
                default: return NOT_POSSIBLE;
            }
        }

        /** Reads the next order; false if it is not of an order's form. */
        private boolean readOrder() {
            letter = text[next];
            next++;
            boolean hasTwo = letter == 'p' || letter == 'b';
            if (!hasTwo && letter != 'k' && letter != 't' && letter != 'e' && letter != 'v') {
                return false;
            }
            first = readNumber();
            if (first == NONE) {
                return false;
            }
            if (hasTwo) {
                second = skip(',') ? readNumber() : NONE;
                if (second == NONE) {
                    return false;
                }
            }
            return skip(';');
        }

        /** Reads a number of at most three digits; NONE if there is none. */
        private int readNumber() {
            int number = 0;
            int digits = 0;
            while (digits < 3 && next < length && text[next] >= '0' && text[next] <= '9') {
                number = 10 * number + text[next] - '0';
                next++;
                digits++;
            }
            return digits == 0 ? NONE : number;
        }

        private boolean skip(char sign) {
            if (next < length && text[next] == sign) {
                next++;
                return true;
            }
            return false;
        }
    }
}
