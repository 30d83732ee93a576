/**
 * Storyboard slugs timed by beats so that an act ends on its turn.
 * DOC.md tells what each public method promises, and in which order a method's errors are checked.
 */
public final class BeatSlugs {
    public static final int NO_SUCH = -1, BAD_VALUE = -2, BAD_TEXT = -3, TOO_MANY = -4, NOT_POSSIBLE = -5, NONE = -6;
    public static final int PAGE = 0, SLACK = 1, TRIM = 2;

    private static final int MOST_SLUGS = 24;
    private static final int MOST_BEATS = 99;
    private static final int MOST_CUT = 98;
    private static final int MOST_TARGET = 999;
    private static final int MOST_SIGNS = 80;
    private static final int MOST_UNDO = 6;
    private static final int SIGNS_OF_A_LONG = 8;
    private static final int OFF_SHIFT = 5000;
    private static final int[] LEAST_SETTING = {4, 0, 0};
    private static final int[] MOST_SETTING = {60, 20, 90};

    private final Board board = new Board();
    private final History history = new History();
    private final Board[] slots = new Board[2];
    private final Pad pad = new Pad();
    private final SwapSearch search = new SwapSearch();

    public BeatSlugs() {
    }

    // ---- changes

    public int set(int setting, int value) {
        history.prepare(board);
        return history.settle(board.changeSetting(setting, value));
    }

    public int target(int act, int beats) {
        history.prepare(board);
        return history.settle(board.changeTarget(act, beats));
    }

    public int slug(int place, int beats, int turn) {
        history.prepare(board);
        return history.settle(board.addSlug(place, beats, turn));
    }

    public int drop(int slug) {
        history.prepare(board);
        return history.settle(board.dropSlug(slug));
    }

    public int turn(int slug) {
        history.prepare(board);
        return history.settle(board.flipTurn(slug));
    }

    public int need(int slug, int other) {
        history.prepare(board);
        return history.settle(board.flipNeed(slug, other));
    }

    public int trim(int slug, int by) {
        history.prepare(board);
        return history.settle(board.trimSlug(slug, by));
    }

    public int restoreTail(int slug) {
        history.prepare(board);
        return history.settle(board.giveBack(slug));
    }

    public int move(int slug, int place) {
        history.prepare(board);
        return history.settle(board.moveSlug(slug, place));
    }

    public int swap(int slug, int other) {
        history.prepare(board);
        return history.settle(board.swapSlugs(slug, other));
    }

    public int split(int slug, int at) {
        history.prepare(board);
        return history.settle(board.splitSlug(slug, at));
    }

    public int fit(int act) {
        history.prepare(board);
        return history.settle(board.fitAct(act));
    }

    // ---- what there is

    public int of(int slug, int what) {
        if (!board.has(slug)) {
            return NO_SUCH;
        }
        int place = board.placeOf(slug);
        switch (what) {
            case 0: return place;
            case 1: return board.writtenOf(slug);
            case 2: return board.beatsOf(slug);
            case 3: return board.isTurn(slug) ? 1 : 0;
            case 4: return board.needsOf(slug);
            case 5: return board.needersOf(slug);
            case 6: return board.beatsIn(0, place);
            case 7: return board.beatsIn(0, place) / board.pageBeats();
            case 8: return board.turnsAhead(place);
            case 9: return board.roomOf(slug);
            default: return BAD_VALUE;
        }
    }

    public int at(int place) {
        return board.slugIn(place);
    }

    public int atBeat(int beat) {
        return beat < 0 ? BAD_VALUE : board.slugAtBeat(beat);
    }

    public int ofAct(int act, int what) {
        if (!board.hasAct(act)) {
            return NO_SUCH;
        }
        int from = board.startOf(act);
        int to = board.startOf(act + 1);
        switch (what) {
            case 0: return board.beatsIn(from, to);
            case 1: return board.targetOf(act);
            case 2: return board.offOf(act) + OFF_SHIFT;
            case 3: return board.isFitting(act) ? 1 : 0;
            case 4: return board.isOpen(act) ? 1 : 0;
            case 5: return to - from;
            case 6: return board.beatsIn(0, from);
            case 7: return board.roomIn(from, to);
            default: return BAD_VALUE;
        }
    }

    public int count(int what) {
        switch (what) {
            case 0: return board.allSlugs();
            case 1: return board.actCount();
            case 2: return board.allBeats();
            case 3: return (board.allBeats() + board.pageBeats() - 1) / board.pageBeats();
            case 4: return board.offTogether();
            case 5: return board.fittingActs();
            case 6: return board.longestSlug();
            case 7: return board.settingOf(PAGE);
            case 8: return board.settingOf(SLACK);
            case 9: return board.settingOf(TRIM);
            case 10: return pad.size();
            case 11: return history.size();
            default: return BAD_VALUE;
        }
    }

    // ---- what if; nothing changes

    public int places(int slug) {
        if (!board.has(slug)) {
            return NO_SUCH;
        }
        int set = 0;
        int highest = board.highestPlace(slug);
        for (int place = board.lowestPlace(slug); place <= highest; place++) {
            set |= bit(place);
        }
        return set;
    }

    public int bestSwap(int what) {
        if (what < 0 || what > 2) {
            return BAD_VALUE;
        }
        search.run(board);
        if (!search.isFound()) {
            return NONE;
        }
        switch (what) {
            case 0: return board.slugIn(search.lowerPlace());
            case 1: return board.slugIn(search.higherPlace());
            default: return search.leastOff();
        }
    }

    public int ifFitted(int act) {
        return board.cutOf(act);
    }

    public int ifTurned(int slug) {
        return board.has(slug) ? board.offIfTurned(slug) : NO_SUCH;
    }

    public int needs(int slug) {
        return board.has(slug) ? board.allNeedsOf(slug) : NO_SUCH;
    }

    // ---- texts

    public int put(long characters) {
        return pad.append(characters);
    }

    public int wipe() {
        return pad.clear();
    }

    public int fault() {
        return pad.firstFault();
    }

    public int carryOut() {
        if (pad.firstFault() != NONE) {
            return BAD_TEXT;
        }
        history.prepare(board);
        pad.rewind();
        int done = 0;
        while (done < MOST_SIGNS && pad.readOrder() && carryOrder() >= 0) {
            done++;
        }
        pad.clear();
        return history.settle(done);
    }

    // ---- undo, saving

    public int undo() {
        return history.takeBack(board);
    }

    public int save(int slot) {
        if (slot < 0 || slot >= slots.length) {
            return BAD_VALUE;
        }
        slots[slot] = copyInto(slots[slot], board);
        return board.size();
    }

    public int restore(int slot) {
        if (slot < 0 || slot >= slots.length) {
            return BAD_VALUE;
        }
        Board saved = slots[slot];
        if (saved == null) {
            return NOT_POSSIBLE;
        }
        history.prepare(board);
        board.takeOver(saved);
        return history.settle(board.size());
    }

    private int carryOrder() {
        int first = pad.firstNumber();
        int second = pad.secondNumber();
        switch (pad.kind()) {
            case 's': return board.addSlug(board.size(), first, second);
            case 'n': return board.flipNeed(first, second);
            case 'm': return board.moveSlug(first, second);
            case 'x': return board.swapSlugs(first, second);
            case 't': return board.trimSlug(first, second);
            case 'f': return board.fitAct(first);
            default: return BAD_TEXT;
        }
    }

    /** Copies into an older copy where there is one, so that calls make hardly any boards. */
    private static Board copyInto(Board older, Board source) {
        Board copy = older == null ? new Board() : older;
        copy.takeOver(source);
        return copy;
    }

    /** Every index that comes from data is read through here, so that none is used untested. */
    private static int cell(int[] cells, int index) {
        return index >= 0 && index < cells.length ? cells[index] : 0;
    }

    private static void store(int[] cells, int index, int value) {
        if (index >= 0 && index < cells.length) {
            cells[index] = value;
        }
    }

    /** The set of one slug or place; empty for a number that is none, as a shift would wrap around. */
    private static int bit(int number) {
        return number >= 0 && number < MOST_SLUGS ? 1 << number : 0;
    }

    private static boolean contains(int set, int number) {
        return number >= 0 && number < MOST_SLUGS && (set >> number & 1) != 0;
    }

    /** All that is undone, saved and restored: the settings, the targets and the slugs in their row. */
    private static final class Board {
        private final int[] settings = {16, 2, 50};
        private final int[] targets = {60, 60, 60, 60, 60, 60};
        private final int[] row = new int[MOST_SLUGS];
        private final int[] written = new int[MOST_SLUGS];
        private final int[] beats = new int[MOST_SLUGS];
        private final int[] needs = new int[MOST_SLUGS];
        private int slugs;
        private int turns;
        private int size;

        Board() {
        }

        void takeOver(Board other) {
            System.arraycopy(other.settings, 0, settings, 0, settings.length);
            System.arraycopy(other.targets, 0, targets, 0, targets.length);
            System.arraycopy(other.row, 0, row, 0, row.length);
            System.arraycopy(other.written, 0, written, 0, written.length);
            System.arraycopy(other.beats, 0, beats, 0, beats.length);
            System.arraycopy(other.needs, 0, needs, 0, needs.length);
            slugs = other.slugs;
            turns = other.turns;
            size = other.size;
        }

        // -- changes; each one returns an error and changes nothing, or a number from 0 on

        int changeSetting(int setting, int value) {
            if (setting < 0 || setting >= settings.length) {
                return BAD_VALUE;
            }
            if (value < cell(LEAST_SETTING, setting) || value > cell(MOST_SETTING, setting)) {
                return BAD_VALUE;
            }
            int previous = settings[setting];
            settings[setting] = value;
            return previous;
        }

        int changeTarget(int act, int wanted) {
            if (act < 0 || act >= targets.length) {
                return NO_SUCH;
            }
            if (wanted < 1 || wanted > MOST_TARGET) {
                return BAD_VALUE;
            }
            int previous = targets[act];
            targets[act] = wanted;
            return previous;
        }

        int addSlug(int place, int length, int turn) {
            if (place < 0 || place > size) {
                return NO_SUCH;
            }
            if (length < 1 || length > MOST_BEATS || turn < 0 || turn > 1) {
                return BAD_VALUE;
            }
            if (size >= MOST_SLUGS) {
                return TOO_MANY;
            }
            int slug = makeSlug(place, length);
            if (turn == 1) {
                turns |= bit(slug);
            }
            return slug;
        }

        int dropSlug(int slug) {
            if (!has(slug)) {
                return NO_SUCH;
            }
            takeOut(placeOf(slug));
            slugs &= ~bit(slug);
            turns &= ~bit(slug);
            for (int other = 0; other < needs.length; other++) {
                needs[other] &= ~bit(slug);
            }
            return size;
        }

        int flipTurn(int slug) {
            if (!has(slug)) {
                return NO_SUCH;
            }
            turns ^= bit(slug);
            return isTurn(slug) ? 1 : 0;
        }

        int flipNeed(int slug, int other) {
            if (!has(slug) || !has(other)) {
                return NO_SUCH;
            }
            if (slug == other) {
                return BAD_VALUE;
            }
            if (!contains(needsOf(slug), other) && placeOf(other) > placeOf(slug)) {
                return NOT_POSSIBLE;
            }
            store(needs, slug, needsOf(slug) ^ bit(other));
            return Integer.bitCount(needsOf(slug));
        }

        int trimSlug(int slug, int by) {
            if (!has(slug)) {
                return NO_SUCH;
            }
            if (by < 1 || by > MOST_CUT) {
                return BAD_VALUE;
            }
            if (by > roomOf(slug)) {
                return NOT_POSSIBLE;
            }
            store(beats, slug, beatsOf(slug) - by);
            return beatsOf(slug);
        }

        int giveBack(int slug) {
            if (!has(slug)) {
                return NO_SUCH;
            }
            int missing = writtenOf(slug) - beatsOf(slug);
            store(beats, slug, writtenOf(slug));
            return missing;
        }

        int moveSlug(int slug, int place) {
            if (!has(slug) || place < 0 || place >= size) {
                return NO_SUCH;
            }
            if (!mayStandIn(slug, place)) {
                return NOT_POSSIBLE;
            }
            int previous = placeOf(slug);
            takeOut(previous);
            putIn(place, slug);
            return previous;
        }

        int swapSlugs(int slug, int other) {
            if (!has(slug) || !has(other)) {
                return NO_SUCH;
            }
            if (slug == other) {
                return BAD_VALUE;
            }
            int place = placeOf(slug);
            int otherPlace = placeOf(other);
            if (!mayStandIn(slug, otherPlace) || !mayStandIn(other, place)) {
                return NOT_POSSIBLE;
            }
            store(row, place, other);
            store(row, otherPlace, slug);
            return Math.abs(place - otherPlace) - 1;
        }

        int splitSlug(int slug, int at) {
            if (!has(slug)) {
                return NO_SUCH;
            }
            if (at < 1 || at > MOST_CUT) {
                return BAD_VALUE;
            }
            if (beatsOf(slug) <= at) {
                return NOT_POSSIBLE;
            }
            if (size >= MOST_SLUGS) {
                return TOO_MANY;
            }
            int rest = makeSlug(placeOf(slug) + 1, writtenOf(slug) - at);
            store(beats, rest, beatsOf(slug) - at);
            store(written, slug, at);
            store(beats, slug, at);
            handOverNeeds(slug, rest);
            handOverTurn(slug, rest);
            return rest;
        }

        int fitAct(int act) {
            int cut = cutOf(act);
            if (cut < 0) {
                return cut;
            }
            int from = startOf(act);
            int left = cut;
            for (int place = startOf(act + 1) - 1; place >= from && left > 0; place--) {
                int slug = cell(row, place);
                int by = Math.min(left, roomOf(slug));
                store(beats, slug, beatsOf(slug) - by);
                left -= by;
            }
            return cut;
        }

        /** Makes a plain slug that needs none; there has to be room for it. */
        private int makeSlug(int place, int length) {
            int slug = lowestFree();
            slugs |= bit(slug);
            store(written, slug, length);
            store(beats, slug, length);
            store(needs, slug, 0);
            putIn(place, slug);
            return slug;
        }

        private int lowestFree() {
            for (int slug = 0; slug < MOST_SLUGS; slug++) {
                if (!contains(slugs, slug)) {
                    return slug;
                }
            }
            return NO_SUCH;
        }

        private void putIn(int place, int slug) {
            for (int behind = size; behind > place; behind--) {
                store(row, behind, cell(row, behind - 1));
            }
            store(row, place, slug);
            size++;
        }

        private void takeOut(int place) {
            for (int behind = place + 1; behind < size; behind++) {
                store(row, behind - 1, cell(row, behind));
            }
            size--;
        }

        private void handOverNeeds(int slug, int rest) {
            for (int other = 0; other < needs.length; other++) {
                if (contains(needs[other], slug)) {
                    needs[other] |= bit(rest);
                }
            }
            store(needs, rest, bit(slug));
        }

        private void handOverTurn(int slug, int rest) {
            if (isTurn(slug)) {
                turns &= ~bit(slug);
                turns |= bit(rest);
            }
        }

        // -- settings and slugs

        int settingOf(int setting) {
            return cell(settings, setting);
        }

        /** The beats of a page, which are a divisor: 1 at least. */
        int pageBeats() {
            return Math.max(1, settingOf(PAGE));
        }

        int size() {
            return size;
        }

        int allSlugs() {
            return slugs;
        }

        int allTurns() {
            return turns;
        }

        boolean has(int slug) {
            return contains(slugs, slug);
        }

        int slugIn(int place) {
            return place >= 0 && place < size ? cell(row, place) : NO_SUCH;
        }

        int placeOf(int slug) {
            for (int place = 0; place < size; place++) {
                if (cell(row, place) == slug) {
                    return place;
                }
            }
            return NO_SUCH;
        }

        int writtenOf(int slug) {
            return cell(written, slug);
        }

        int beatsOf(int slug) {
            return cell(beats, slug);
        }

        boolean isTurn(int slug) {
            return contains(turns, slug);
        }

        /** By how many beats a slug can be trimmed; a lower TRIM can leave it below its least ones. */
        int roomOf(int slug) {
            int length = cell(written, slug);
            int least = Math.max(1, length - length * cell(settings, TRIM) / 100);
            return Math.max(0, cell(beats, slug) - least);
        }

        int longestSlug() {
            int longest = NONE;
            int most = 0;
            for (int place = 0; place < size; place++) {
                int slug = cell(row, place);
                if (beatsOf(slug) > most) {
                    longest = slug;
                    most = beatsOf(slug);
                }
            }
            return longest;
        }

        // -- needs

        int needsOf(int slug) {
            return cell(needs, slug);
        }

        int needersOf(int slug) {
            int set = 0;
            for (int place = 0; place < size; place++) {
                int other = cell(row, place);
                if (contains(needsOf(other), slug)) {
                    set |= bit(other);
                }
            }
            return set;
        }

        /** One walk is enough: what a slug needs is ahead of it. */
        int allNeedsOf(int slug) {
            int set = needsOf(slug);
            for (int place = size - 1; place >= 0; place--) {
                int other = cell(row, place);
                if (contains(set, other)) {
                    set |= needsOf(other);
                }
            }
            return set;
        }

        /** The place behind the last slug that a slug needs. */
        int lowestPlace(int slug) {
            int set = needsOf(slug);
            for (int place = size - 1; place >= 0; place--) {
                if (contains(set, cell(row, place))) {
                    return place + 1;
                }
            }
            return 0;
        }

        /** The place ahead of the first slug that needs a slug. */
        int highestPlace(int slug) {
            for (int place = 0; place < size; place++) {
                if (contains(cell(needs, cell(row, place)), slug)) {
                    return place - 1;
                }
            }
            return size - 1;
        }

        /** The same for a move and for a swap: neither takes a slug past one that it needs, or that needs it. */
        private boolean mayStandIn(int slug, int place) {
            return place >= lowestPlace(slug) && place <= highestPlace(slug);
        }

        // -- beats and acts

        int beatsIn(int from, int to) {
            int sum = 0;
            for (int place = from; place < to; place++) {
                sum += cell(beats, cell(row, place));
            }
            return sum;
        }

        int allBeats() {
            return beatsIn(0, size);
        }

        int roomIn(int from, int to) {
            int sum = 0;
            for (int place = from; place < to; place++) {
                sum += roomOf(cell(row, place));
            }
            return sum;
        }

        int slugAtBeat(int beat) {
            int end = 0;
            for (int place = 0; place < size; place++) {
                int slug = cell(row, place);
                end += beatsOf(slug);
                if (beat < end) {
                    return slug;
                }
            }
            return NONE;
        }

        int turnsAhead(int place) {
            int sum = 0;
            for (int ahead = 0; ahead < place; ahead++) {
                if (contains(turns, cell(row, ahead))) {
                    sum++;
                }
            }
            return sum;
        }

        int actCount() {
            boolean open = size > 0 && !contains(turns, cell(row, size - 1));
            return Integer.bitCount(turns) + (open ? 1 : 0);
        }

        boolean hasAct(int act) {
            return act >= 0 && act < actCount();
        }

        /** The place behind as many turns as there are acts ahead; the end of the row if there are fewer. */
        int startOf(int act) {
            int place = 0;
            for (int left = act; place < size && left > 0; place++) {
                if (contains(turns, cell(row, place))) {
                    left--;
                }
            }
            return place;
        }

        int targetOf(int act) {
            return cell(targets, Math.min(act, targets.length - 1));
        }

        int offOf(int act) {
            return beatsIn(startOf(act), startOf(act + 1)) - targetOf(act);
        }

        boolean isOpen(int act) {
            return act >= Integer.bitCount(turns);
        }

        boolean isFitting(int act) {
            return !isOpen(act) && Math.abs(offOf(act)) <= settingOf(SLACK);
        }

        int fittingActs() {
            int sum = 0;
            int acts = actCount();
            for (int act = 0; act < acts; act++) {
                if (isFitting(act)) {
                    sum++;
                }
            }
            return sum;
        }

        int cutOf(int act) {
            if (!hasAct(act)) {
                return NO_SUCH;
            }
            int above = Math.max(0, offOf(act));
            int cut = Math.min(above, roomIn(startOf(act), startOf(act + 1)));
            return above - cut > settingOf(SLACK) ? NOT_POSSIBLE : cut;
        }

        int offTogether() {
            return offOfRow(row, turns);
        }

        int offIfTurned(int slug) {
            return offOfRow(row, turns ^ bit(slug));
        }

        /** How far all acts are off, without signs, together, in another order or with other turns. */
        int offOfRow(int[] order, int turnSet) {
            int together = 0;
            int act = 0;
            int sum = 0;
            boolean open = false;
            for (int place = 0; place < size; place++) {
                int slug = cell(order, place);
                sum += cell(beats, slug);
                open = !contains(turnSet, slug);
                if (!open) {
                    together += Math.abs(sum - targetOf(act));
                    act++;
                    sum = 0;
                }
            }
            return open ? together + Math.abs(sum - targetOf(act)) : together;
        }
    }

    /** The states ahead of the latest changes. */
    private static final class History {
        // one more than can be undone: a change that fails must not have cost the oldest state
        private final Board[] states = new Board[MOST_UNDO + 1];
        private int next;
        private int kept;

        History() {
        }

        int size() {
            return kept;
        }

        void prepare(Board board) {
            if (next >= 0 && next < states.length) {
                states[next] = copyInto(states[next], board);
            }
        }

        /** Records what was prepared, unless the change's answer is an error; returns the answer. */
        int settle(int answer) {
            if (answer >= 0) {
                next = next + 1 < states.length ? next + 1 : 0;
                kept = Math.min(kept + 1, MOST_UNDO);
            }
            return answer;
        }

        int takeBack(Board board) {
            int latest = next > 0 ? next - 1 : states.length - 1;
            if (kept <= 0 || latest >= states.length) {
                return NOT_POSSIBLE;
            }
            Board state = states[latest];
            if (state == null) {
                return NOT_POSSIBLE;
            }
            board.takeOver(state);
            next = latest;
            kept--;
            return kept;
        }
    }

    /** Tries every swap that can be done, on a row of its own. */
    private static final class SwapSearch {
        private final int[] trial = new int[MOST_SLUGS];
        private int lower;
        private int higher;
        private int least;

        SwapSearch() {
        }

        boolean isFound() {
            return lower < higher;
        }

        int lowerPlace() {
            return lower;
        }

        int higherPlace() {
            return higher;
        }

        int leastOff() {
            return least;
        }

        void run(Board board) {
            lower = 0;
            higher = 0;
            least = board.offTogether();
            int size = board.size();
            for (int place = 0; place < size; place++) {
                store(trial, place, board.slugIn(place));
            }
            for (int place = 0; place < size; place++) {
                tryAllBehind(board, place);
            }
        }

        private void tryAllBehind(Board board, int place) {
            int highest = board.highestPlace(board.slugIn(place));
            for (int behind = place + 1; behind <= highest; behind++) {
                if (board.lowestPlace(board.slugIn(behind)) <= place) {
                    tryOne(board, place, behind);
                }
            }
        }

        private void tryOne(Board board, int place, int behind) {
            exchange(place, behind);
            int off = board.offOfRow(trial, board.allTurns());
            exchange(place, behind);
            if (off < least) {
                least = off;
                lower = place;
                higher = behind;
            }
        }

        private void exchange(int place, int behind) {
            int slug = cell(trial, place);
            store(trial, place, cell(trial, behind));
            store(trial, behind, slug);
        }
    }

    /** The text of orders, and the order that was read of it last. */
    private static final class Pad {
        private final char[] signs = new char[MOST_SIGNS];
        private int length;
        private int cursor;
        private boolean last;
        private char kind;
        private int first;
        private int second;

        Pad() {
        }

        int size() {
            return length;
        }

        int clear() {
            int previous = length;
            length = 0;
            return previous;
        }

        int append(long characters) {
            int more = signsOf(characters);
            if (more < 1) {
                return BAD_VALUE;
            }
            if (length + more > MOST_SIGNS) {
                return TOO_MANY;
            }
            for (int sign = more - 1; sign >= 0; sign--) {
                addSign((char) codeOf(characters, sign));
            }
            return length;
        }

        /** How many characters a number holds; BAD_VALUE if it holds anything else. */
        private static int signsOf(long characters) {
            int found = 0;
            while (found < SIGNS_OF_A_LONG && codeOf(characters, found) != 0) {
                int code = codeOf(characters, found);
                if (code < 33 || code > 126) {
                    return BAD_VALUE;
                }
                found++;
            }
            if (found < SIGNS_OF_A_LONG && characters >>> (8 * found) != 0) {
                return BAD_VALUE;
            }
            return found;
        }

        private static int codeOf(long characters, int sign) {
            return (int) (characters >>> (8 * sign)) & 255;
        }

        private void addSign(char sign) {
            if (length >= 0 && length < signs.length) {
                signs[length] = sign;
                length++;
            }
        }

        int firstFault() {
            rewind();
            for (int order = 0; order < MOST_SIGNS; order++) {
                if (!readOrder()) {
                    return cursor;
                }
                if (last) {
                    return NONE;
                }
            }
            return NONE;
        }

        void rewind() {
            cursor = 0;
        }

        char kind() {
            return kind;
        }

        int firstNumber() {
            return first;
        }

        /** The second number, if there is one; of "s" 1 if there is a "!", otherwise 0. */
        int secondNumber() {
            return second;
        }

        /** Reads an order and the ";" behind it, if it is not the last one; else the cursor stays at the fault. */
        boolean readOrder() {
            kind = signAt(cursor);
            boolean read = false;
            switch (kind) {
                case 's': read = readSlug(); break;
                case 'n': read = readPair('>'); break;
                case 'm': read = readPair('@'); break;
                case 'x': read = readPair('~'); break;
                case 't': read = readPair('-'); break;
                case 'f': read = readAct(); break;
                default: break;
            }
            last = read && cursor >= length;
            return last || (read && skip(';'));
        }

        private boolean readSlug() {
            cursor++;
            first = readNumber();
            if (first < 0) {
                return false;
            }
            second = skip('!') ? 1 : 0;
            return true;
        }

        private boolean readPair(char between) {
            cursor++;
            first = readNumber();
            if (first < 0 || !skip(between)) {
                return false;
            }
            second = readNumber();
            return second >= 0;
        }

        private boolean readAct() {
            cursor++;
            first = readDigit();
            return first >= 0;
        }

        /** NONE if there is no number; a digit too many stays where it is, as a fault of what follows. */
        private int readNumber() {
            int tens = readDigit();
            if (tens <= 0) {
                return tens;
            }
            int ones = readDigit();
            return ones < 0 ? tens : 10 * tens + ones;
        }

        private int readDigit() {
            char sign = signAt(cursor);
            if (sign < '0' || sign > '9') {
                return NONE;
            }
            cursor++;
            return sign - '0';
        }

        private boolean skip(char sign) {
            if (signAt(cursor) != sign) {
                return false;
            }
            cursor++;
            return true;
        }

        /** The character at an index, or (char) 0, which no pad holds. */
        private char signAt(int index) {
            return index >= 0 && index < length && index < signs.length ? signs[index] : (char) 0;
        }
    }
}
