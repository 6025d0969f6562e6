import java.util.ArrayList;
import java.util.List;

/**
 * The document once more, in another way than the program: chips that keep values in their rows,
 * godfathers that really keep sums, and words that wait without a value, which only the sum tells.
 * Each change is done on a deep copy, which is dropped if it is not possible.
 */
final class PlainModel {
    static final int INVALID = -1000001;
    static final int IMPOSSIBLE = -1000002;
    static final int LIMIT = -1000003;
    static final int MISSING = -1000004;

    /** What a change throws that is not possible. */
    private static final class No extends RuntimeException {
        private static final long serialVersionUID = 1L;
        final int code;

        No(int code) {
            super(null, null, false, false);
            this.code = code;
        }
    }

    private static final class Chip {
        int family;
        int spares;
        boolean alive = true;
        boolean head;
        final boolean[] broken = new boolean[6];
        final Integer[] word = new Integer[6];
        /** Values of words; sums if it is a godfather. */
        final int[] cell = new int[6];

        Chip copy() {
            Chip c = new Chip();
            c.family = family;
            c.spares = spares;
            c.alive = alive;
            c.head = head;
            for (int r = 0; r < 6; r++) {
                c.broken[r] = broken[r];
                c.word[r] = word[r];
                c.cell[r] = cell[r];
            }
            return c;
        }

        int load() {
            int n = 0;
            for (Integer w : word) {
                n += w == null ? 0 : 1;
            }
            return n;
        }
    }

    private static final class Waiter {
        final int word;
        final int row;

        Waiter(int word, int row) {
            this.word = word;
            this.row = row;
        }
    }

    private static final class World {
        final List<Chip> chips = new ArrayList<>();
        final List<List<Waiter>> queues = new ArrayList<>();
        /** How often each word was raised. */
        final List<Integer> raises = new ArrayList<>();
        int time;

        World() {
            for (int f = 0; f < 3; f++) {
                queues.add(new ArrayList<>());
            }
        }

        World copy() {
            World w = new World();
            for (Chip c : chips) {
                w.chips.add(c.copy());
            }
            for (int f = 0; f < 3; f++) {
                w.queues.get(f).addAll(queues.get(f));
            }
            w.raises.addAll(raises);
            w.time = time;
            return w;
        }

        Chip chip(int c) {
            if (c < 0 || c >= chips.size()) {
                throw new No(INVALID);
            }
            return chips.get(c);
        }

        Chip headOf(int family) {
            for (Chip c : chips) {
                if (c.head && c.family == family) {
                    return c;
                }
            }
            return null;
        }

        boolean guarded(int family, int row) {
            Chip head = headOf(family);
            return head != null && !head.broken[row];
        }

        Waiter waiter(int family, int row) {
            for (Waiter w : queues.get(family)) {
                if (w.row == row) {
                    return w;
                }
            }
            return null;
        }

        boolean place(Chip c, int row) {
            return c.alive && !c.head && !c.broken[row] && c.word[row] == null && waiter(c.family, row) == null;
        }

        int places(Chip c) {
            int n = 0;
            for (int r = 0; r < 6; r++) {
                n += place(c, r) ? 1 : 0;
            }
            return n;
        }

        int lowest(Chip c) {
            for (int r = 0; r < 6; r++) {
                if (place(c, r)) {
                    return r;
                }
            }
            throw new No(IMPOSSIBLE);
        }

        int keptSum(int family, int row) {
            int sum = 0;
            for (Chip c : chips) {
                if (c.family == family && c.word[row] != null) {
                    sum ^= c.cell[row];
                }
            }
            return sum;
        }

        int valueOfWaiter(int family, Waiter w) {
            return headOf(family).cell[w.row] ^ keptSum(family, w.row);
        }

        void addToSum(int family, int row, int value) {
            if (guarded(family, row)) {
                headOf(family).cell[row] ^= value;
            }
        }

        void store(Chip c, int row, int word, int value) {
            c.word[row] = word;
            c.cell[row] = value;
            addToSum(c.family, row, value);
        }

        int takeOut(Chip c, int row) {
            int value = c.cell[row];
            c.word[row] = null;
            c.cell[row] = 0;
            addToSum(c.family, row, value);
            return value;
        }

        Chip whereTo(int family, Chip not) {
            Chip best = null;
            for (int round = 0; round < 2 && best == null; round++) {
                for (Chip c : chips) {
                    if ((c.family == family) == (round == 0) && c != not && places(c) > 0
                            && (best == null || places(c) > places(best))) {
                        best = c;
                    }
                }
            }
            return best;
        }

        /** The content of a row is gone, without its sum being told; how many words are lost. */
        int gone(Chip c, int row, boolean standsIn) {
            if (c.word[row] == null) {
                return 0;
            }
            int word = c.word[row];
            Waiter other = waiter(c.family, row);
            c.word[row] = null;
            c.cell[row] = 0;
            if (!guarded(c.family, row)) {
                return 1;
            }
            Chip head = headOf(c.family);
            if (other != null) {
                queues.get(c.family).remove(other);
                head.cell[row] = keptSum(c.family, row);
                return 2;
            }
            if (standsIn) {
                c.cell[row] = head.cell[row] ^ keptSum(c.family, row);
                c.word[row] = word;
            } else {
                queues.get(c.family).add(new Waiter(word, row));
            }
            return 0;
        }

        int tickOnce() {
            int raised = 0;
            for (int f = 0; f < 3; f++) {
                List<Waiter> queue = queues.get(f);
                if (queue.isEmpty()) {
                    continue;
                }
                Waiter w = queue.get(0);
                int value = valueOfWaiter(f, w);
                queue.remove(0);
                Chip to = whereTo(f, null);
                if (to == null) {
                    queue.add(0, w);
                    continue;
                }
                addToSum(f, w.row, value);
                store(to, lowest(to), w.word, value);
                raises.set(w.word, raises.get(w.word) + 1);
                raised++;
            }
            return raised;
        }

        int waits() {
            int n = 0;
            for (List<Waiter> q : queues) {
                n += q.size();
            }
            return n;
        }

        Waiter waiterOfWord(int word) {
            for (List<Waiter> q : queues) {
                for (Waiter w : q) {
                    if (w.word == word) {
                        return w;
                    }
                }
            }
            return null;
        }

        int familyOfWaiter(Waiter w) {
            for (int f = 0; f < 3; f++) {
                if (queues.get(f).contains(w)) {
                    return f;
                }
            }
            return -1;
        }

        int chipOfWord(int word) {
            for (int c = 0; c < chips.size(); c++) {
                for (Integer w : chips.get(c).word) {
                    if (w != null && w == word) {
                        return c;
                    }
                }
            }
            return -1;
        }

        int rowOfWord(int word) {
            Chip c = chips.get(chipOfWord(word));
            for (int r = 0; r < 6; r++) {
                if (c.word[r] != null && c.word[r] == word) {
                    return r;
                }
            }
            return -1;
        }

        void checkWord(int word) {
            if (word < 0 || word >= raises.size()) {
                throw new No(INVALID);
            }
        }
    }

    private interface Change {
        int on(World w);
    }

    private World world = new World();
    private final List<World> past = new ArrayList<>();
    private String text = "";

    private int change(Change change) {
        World next = world.copy();
        int answer;
        try {
            answer = change.on(next);
        } catch (No no) {
            return no.code;
        }
        past.add(world);
        if (past.size() > 4) {
            past.remove(0);
        }
        world = next;
        return answer;
    }

    private int what(Change asked) {
        try {
            return asked.on(world.copy());
        } catch (No no) {
            return no.code;
        }
    }

    private static void need(boolean fine, int code) {
        if (!fine) {
            throw new No(code);
        }
    }

    private static void range(int n, int from, int to) {
        need(n >= from && n <= to, INVALID);
    }

    int chip(int family, int spares) {
        return change(w -> {
            range(family, 0, 2);
            range(spares, 0, 2);
            need(w.chips.size() < 8, LIMIT);
            Chip c = new Chip();
            c.family = family;
            c.spares = spares;
            w.chips.add(c);
            return w.chips.size() - 1;
        });
    }

    private static int electIn(World w, int chip) {
        Chip c = w.chip(chip);
        need(c.alive && w.headOf(c.family) == null && c.load() == 0, IMPOSSIBLE);
        c.head = true;
        int guarded = 0;
        for (int r = 0; r < 6; r++) {
            if (!c.broken[r]) {
                c.cell[r] = w.keptSum(c.family, r);
                guarded++;
            }
        }
        return guarded;
    }

    int elect(int chip) {
        return change(w -> electIn(w, chip));
    }

    private static int killIn(World w, int chip) {
        Chip c = w.chip(chip);
        need(c.alive, IMPOSSIBLE);
        c.alive = false;
        int lost = 0;
        if (c.head) {
            c.head = false;
            lost = w.queues.get(c.family).size();
            w.queues.get(c.family).clear();
        } else {
            for (int r = 0; r < 6; r++) {
                lost += w.gone(c, r, false);
            }
        }
        return lost;
    }

    int kill(int chip) {
        return change(w -> killIn(w, chip));
    }

    private static int breakIn(World w, int chip, int row) {
        Chip c = w.chip(chip);
        range(row, 0, 5);
        need(c.alive && !c.broken[row], IMPOSSIBLE);
        boolean standsIn = c.spares > 0;
        c.spares -= standsIn ? 1 : 0;
        if (!c.head) {
            c.broken[row] = !standsIn;
            return w.gone(c, row, standsIn);
        }
        Waiter other = w.waiter(c.family, row);
        w.queues.get(c.family).remove(other);
        c.broken[row] = !standsIn;
        c.cell[row] = standsIn ? w.keptSum(c.family, row) : 0;
        return other == null ? 0 : 1;
    }

    int breaks(int chip, int row) {
        return change(w -> breakIn(w, chip, row));
    }

    int chipOf(int chip, int what) {
        return what(w -> {
            Chip c = w.chip(chip);
            range(what, 0, 6);
            int set = 0;
            for (int r = 0; r < 6; r++) {
                set += c.broken[r] ? 1 << r : 0;
            }
            return new int[] {c.family, c.alive ? 1 : 0, c.head ? 1 : 0, c.load(), w.places(c), set, c.spares}[what];
        });
    }

    int rowOf(int chip, int row) {
        return what(w -> {
            Chip c = w.chip(chip);
            range(row, 0, 5);
            need(c.alive && !c.broken[row], IMPOSSIBLE);
            if (c.head) {
                return c.cell[row];
            }
            need(c.word[row] != null, MISSING);
            return c.word[row];
        });
    }

    private static int putIn(World w, int chip, int value) {
        Chip c = w.chip(chip);
        range(value, 0, 255);
        int row = w.lowest(c);
        need(w.raises.size() < 24, LIMIT);
        int word = w.raises.size();
        w.raises.add(0);
        w.store(c, row, word, value);
        return word;
    }

    int put(int chip, int value) {
        return change(w -> putIn(w, chip, value));
    }

    int write(int word, int value) {
        return change(w -> {
            w.checkWord(word);
            range(value, 0, 255);
            need(w.chipOfWord(word) >= 0, IMPOSSIBLE);
            Chip c = w.chips.get(w.chipOfWord(word));
            int row = w.rowOfWord(word);
            int before = w.takeOut(c, row);
            w.store(c, row, word, value);
            return before;
        });
    }

    int read(int word) {
        return what(w -> {
            w.checkWord(word);
            int chip = w.chipOfWord(word);
            if (chip >= 0) {
                return w.chips.get(chip).cell[w.rowOfWord(word)];
            }
            Waiter waiter = w.waiterOfWord(word);
            need(waiter != null, MISSING);
            return w.valueOfWaiter(w.familyOfWaiter(waiter), waiter);
        });
    }

    int carry(int word, int chip) {
        return change(w -> {
            w.checkWord(word);
            Chip to = w.chip(chip);
            int from = w.chipOfWord(word);
            need(from >= 0 && from != chip, IMPOSSIBLE);
            int row = w.lowest(to);
            w.store(to, row, word, w.takeOut(w.chips.get(from), w.rowOfWord(word)));
            return row;
        });
    }

    private static int emptyIn(World w, int chip) {
        Chip c = w.chip(chip);
        need(c.alive && !c.head, IMPOSSIBLE);
        int carried = 0;
        for (int r = 0; r < 6; r++) {
            if (c.word[r] != null) {
                int word = c.word[r];
                int value = w.takeOut(c, r);
                Chip to = w.whereTo(c.family, c);
                need(to != null, IMPOSSIBLE);
                w.store(to, w.lowest(to), word, value);
                carried++;
            }
        }
        return carried;
    }

    int empty(int chip) {
        return change(w -> emptyIn(w, chip));
    }

    int wordOf(int word, int what) {
        return what(w -> {
            w.checkWord(word);
            range(what, 0, 5);
            int chip = w.chipOfWord(word);
            Waiter waiter = w.waiterOfWord(word);
            boolean lost = chip < 0 && waiter == null;
            switch (what) {
                case 0:
                    return chip >= 0 ? 0 : lost ? 2 : 1;
                case 1:
                    return chip >= 0 ? chip : MISSING;
                case 2:
                    return lost ? MISSING : chip >= 0 ? w.rowOfWord(word) : waiter.row;
                case 3:
                    return lost ? MISSING : chip >= 0 ? w.chips.get(chip).family : w.familyOfWaiter(waiter);
                case 4:
                    return waiter == null ? MISSING : w.queues.get(w.familyOfWaiter(waiter)).indexOf(waiter);
                default:
                    return w.raises.get(word);
            }
        });
    }

    int familyOf(int family, int what) {
        return what(w -> {
            range(family, 0, 2);
            range(what, 0, 6);
            Chip head = w.headOf(family);
            int living = 0;
            int kept = 0;
            int bare = 0;
            int guarded = 0;
            for (int r = 0; r < 6; r++) {
                guarded |= w.guarded(family, r) ? 1 << r : 0;
            }
            for (int i = 0; i < w.chips.size(); i++) {
                Chip c = w.chips.get(i);
                if (c.family == family) {
                    living |= c.alive ? 1 << i : 0;
                    kept += c.load();
                    for (int r = 0; r < 6; r++) {
                        bare += c.word[r] != null && !w.guarded(family, r) ? 1 : 0;
                    }
                }
            }
            List<Waiter> queue = w.queues.get(family);
            int first = queue.isEmpty() ? MISSING : queue.get(0).word;
            int godfather = head == null ? MISSING : w.chips.indexOf(head);
            return new int[] {godfather, living, queue.size(), kept, guarded, bare, first}[what];
        });
    }

    private static int tickIn(World w, int ticks) {
        range(ticks, 1, 100);
        need(w.time + ticks <= 100000, LIMIT);
        int raised = 0;
        for (int i = 0; i < ticks; i++) {
            raised += w.tickOnce();
        }
        w.time += ticks;
        return raised;
    }

    int tick(int ticks) {
        return change(w -> tickIn(w, ticks));
    }

    private int lossOf(int first, int second) {
        World w = world.copy();
        int lost = killIn(w, first);
        return second < 0 ? lost : lost + killIn(w, second);
    }

    private boolean alive(int chip) {
        return world.chips.get(chip).alive;
    }

    int loss(int first, int second) {
        return what(w -> {
            range(first, 0, w.chips.size() - 1);
            range(second, -1, w.chips.size() - 1);
            need(first != second, INVALID);
            need(alive(first) && (second < 0 || alive(second)), IMPOSSIBLE);
            return lossOf(first, second);
        });
    }

    int safe() {
        int set = 0;
        for (int c = 0; c < world.chips.size(); c++) {
            set |= alive(c) && lossOf(c, -1) == 0 ? 1 << c : 0;
        }
        return set;
    }

    int worstTwo(int what) {
        if (what < 0 || what > 1) {
            return INVALID;
        }
        int best = -1;
        for (int pair = 0; pair < 100; pair++) {
            int a = pair / 10;
            int b = pair % 10;
            int n = world.chips.size();
            if (a != b && a < n && b < n && alive(a) && alive(b)
                    && (best < 0 || lossOf(a, b) > lossOf(best / 10, best % 10))) {
                best = pair;
            }
        }
        if (best < 0) {
            return MISSING;
        }
        return what == 0 ? best : lossOf(best / 10, best % 10);
    }

    int calm() {
        World w = world.copy();
        for (int ticks = 0; ticks < 200; ticks++) {
            if (w.waits() == 0) {
                return ticks;
            }
            w.tickOnce();
        }
        return MISSING;
    }

    int heir(int family) {
        return what(w -> {
            range(family, 0, 2);
            need(w.headOf(family) == null, IMPOSSIBLE);
            int best = MISSING;
            for (int c = 0; c < w.chips.size(); c++) {
                if (w.chips.get(c).family == family && couldBeHead(c)
                        && (best < 0 || w.chips.get(c).load() < w.chips.get(best).load())) {
                    best = c;
                }
            }
            return best;
        });
    }

    private boolean couldBeHead(int chip) {
        World w = world.copy();
        try {
            if (w.chips.get(chip).load() > 0) {
                emptyIn(w, chip);
            }
            electIn(w, chip);
            return true;
        } catch (No no) {
            return false;
        }
    }

    int count(int what) {
        int living = 0;
        int kept = 0;
        int heads = 0;
        int places = 0;
        int raised = 0;
        for (Chip c : world.chips) {
            living += c.alive ? 1 : 0;
            heads += c.head ? 1 : 0;
            kept += c.load();
            places += world.places(c);
        }
        for (int n : world.raises) {
            raised += n;
        }
        int words = world.raises.size();
        int[] all = {world.chips.size(), living, words, kept, world.waits(), words - kept - world.waits(),
            world.time, raised, heads, places, past.size(), text.length()};
        return what < 0 || what >= all.length ? INVALID : all[what];
    }

    int undo() {
        if (past.isEmpty()) {
            return IMPOSSIBLE;
        }
        world = past.remove(past.size() - 1);
        return past.size();
    }

    int type(int character) {
        if (character < 32 || character > 126) {
            return INVALID;
        }
        if (text.length() == 60) {
            return LIMIT;
        }
        text += (char) character;
        return text.length();
    }

    int clearText() {
        int length = text.length();
        text = "";
        return length;
    }

    /** Does the text on a world; null if it has no fault, otherwise its place and its reason. */
    private int[] playOn(World w) {
        int at = 0;
        while (at < text.length()) {
            int end = text.indexOf(';', at);
            String order = end < 0 ? "" : text.substring(at, end);
            if (!order.matches("[ktev][0-9]{1,3}|[pb][0-9]{1,3},[0-9]{1,3}")) {
                return new int[] {at, 1};
            }
            String[] numbers = order.substring(1).split(",");
            int a = Integer.parseInt(numbers[0]);
            int b = numbers.length > 1 ? Integer.parseInt(numbers[1]) : 0;
            if (order.charAt(0) != 't' && a >= w.chips.size()) {
                return new int[] {at, 2};
            }
            try {
                switch (order.charAt(0)) {
                    case 'k': killIn(w, a); break;
                    case 't': tickIn(w, a); break;
                    case 'e': electIn(w, a); break;
                    case 'v': emptyIn(w, a); break;
                    case 'p': putIn(w, a, b); break;
                    default: breakIn(w, a, b); break;
                }
            } catch (No no) {
                return new int[] {at, 3};
            }
            at = end + 1;
        }
        return null;
    }

    int fault(int what) {
        if (what < 0 || what > 1) {
            return INVALID;
        }
        int[] fault = playOn(world.copy());
        return fault == null ? MISSING : fault[what];
    }

    int play() {
        return change(w -> {
            need(playOn(w) == null, IMPOSSIBLE);
            return text.isEmpty() ? 0 : text.split(";").length;
        });
    }
}
