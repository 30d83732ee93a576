import java.util.ArrayList;
import java.util.List;
import java.util.TreeSet;
import java.util.regex.Matcher;
import java.util.regex.Pattern;

/** Long mixed runs of calls, each answer held against a slow model that does the document's words one by one. */
public final class ModelRuns {
    private static final int RUNS = 700;
    private static final int CALLS = 512;
    private static final int NO_SUCH = -1, BAD_VALUE = -2, BAD_TEXT = -3, TOO_MANY = -4, NOT_POSSIBLE = -5, NONE = -6;

    private static final class Slug {
        int number;
        int written;
        int beats;
        boolean turn;
        TreeSet<Integer> needs = new TreeSet<>();

        Slug copy() {
            Slug copy = new Slug();
            copy.number = number;
            copy.written = written;
            copy.beats = beats;
            copy.turn = turn;
            copy.needs.addAll(needs);
            return copy;
        }
    }

    private static final class State {
        int[] settings = {16, 2, 50};
        int[] targets = {60, 60, 60, 60, 60, 60};
        List<Slug> row = new ArrayList<>();

        State copy() {
            State copy = new State();
            copy.settings = settings.clone();
            copy.targets = targets.clone();
            for (Slug slug : row) {
                copy.row.add(slug.copy());
            }
            return copy;
        }

        Slug find(int number) {
            for (Slug slug : row) {
                if (slug.number == number) {
                    return slug;
                }
            }
            return null;
        }

        int free() {
            int number = 0;
            while (find(number) != null) {
                number++;
            }
            return number;
        }

        boolean sound() {
            TreeSet<Integer> ahead = new TreeSet<>();
            for (Slug slug : row) {
                if (!ahead.containsAll(slug.needs)) {
                    return false;
                }
                ahead.add(slug.number);
            }
            return true;
        }

        List<List<Slug>> acts() {
            List<List<Slug>> acts = new ArrayList<>();
            List<Slug> act = new ArrayList<>();
            for (Slug slug : row) {
                act.add(slug);
                if (slug.turn) {
                    acts.add(act);
                    act = new ArrayList<>();
                }
            }
            if (!act.isEmpty()) {
                acts.add(act);
            }
            return acts;
        }

        int targetOf(int act) {
            return act < 6 ? targets[act] : targets[5];
        }

        int off(int act) {
            return sum(acts().get(act)) - targetOf(act);
        }

        int allOff() {
            int all = 0;
            for (int act = 0; act < acts().size(); act++) {
                all += Math.abs(off(act));
            }
            return all;
        }

        boolean open(int act) {
            List<Slug> slugs = acts().get(act);
            return !slugs.get(slugs.size() - 1).turn;
        }

        boolean fits(int act) {
            return Math.abs(off(act)) <= settings[1] && !open(act);
        }

        boolean canBeTrimmed(Slug slug) {
            return slug.beats - 1 >= 1 && slug.beats - 1 >= slug.written - slug.written * settings[2] / 100;
        }

        int room(Slug slug) {
            Slug copy = slug.copy();
            int room = 0;
            while (canBeTrimmed(copy)) {
                copy.beats--;
                room++;
            }
            return room;
        }
    }

    private static int sum(List<Slug> slugs) {
        int sum = 0;
        for (Slug slug : slugs) {
            sum += slug.beats;
        }
        return sum;
    }

    private static final String NUMBER = "(?:0|[1-9][0-9]?)";
    private static final String ORDER = "(?:s" + NUMBER + "!?|n" + NUMBER + ">" + NUMBER + "|m" + NUMBER + "@" + NUMBER
        + "|x" + NUMBER + "~" + NUMBER + "|t" + NUMBER + "-" + NUMBER + "|f[0-9])";
    private static final Pattern TEXT = Pattern.compile(ORDER + "(?:;" + ORDER + ")*");

    private static final class Model {
        State now = new State();
        List<State> history = new ArrayList<>();
        State[] slots = new State[2];
        String pad = "";

        /** A change: works on a copy, which counts only if the answer is no error. */
        int change(int kind, int a, int b, int c) {
            State then = now.copy();
            int answer = changed(then, kind, a, b, c);
            return settle(then, answer);
        }

        int settle(State then, int answer) {
            if (answer >= 0) {
                history.add(now);
                if (history.size() > 6) {
                    history.remove(0);
                }
                now = then;
            }
            return answer;
        }

        int changed(State s, int kind, int a, int b, int c) {
            switch (kind) {
                case 0: return set(s, a, b);
                case 1: return target(s, a, b);
                case 2: return slug(s, a, b, c);
                case 3: return drop(s, a);
                case 4: return turn(s, a);
                case 5: return need(s, a, b);
                case 6: return trim(s, a, b);
                case 7: return restoreTail(s, a);
                case 8: return move(s, a, b);
                case 9: return swap(s, a, b);
                case 10: return split(s, a, b);
                default: return fit(s, a);
            }
        }

        int set(State s, int setting, int value) {
            int[][] ranges = {{4, 60}, {0, 20}, {0, 90}};
            if (setting < 0 || setting > 2 || value < ranges[setting][0] || value > ranges[setting][1]) {
                return BAD_VALUE;
            }
            int previous = s.settings[setting];
            s.settings[setting] = value;
            return previous;
        }

        int target(State s, int act, int beats) {
            if (act < 0 || act > 5) {
                return NO_SUCH;
            }
            if (beats < 1 || beats > 999) {
                return BAD_VALUE;
            }
            int previous = s.targets[act];
            s.targets[act] = beats;
            return previous;
        }

        int slug(State s, int place, int beats, int turn) {
            if (place < 0 || place > s.row.size()) {
                return NO_SUCH;
            }
            if (beats < 1 || beats > 99 || (turn != 0 && turn != 1)) {
                return BAD_VALUE;
            }
            if (s.row.size() == 24) {
                return TOO_MANY;
            }
            Slug slug = new Slug();
            slug.number = s.free();
            slug.written = beats;
            slug.beats = beats;
            slug.turn = turn == 1;
            s.row.add(place, slug);
            return slug.number;
        }

        int drop(State s, int number) {
            Slug slug = s.find(number);
            if (slug == null) {
                return NO_SUCH;
            }
            s.row.remove(slug);
            for (Slug other : s.row) {
                other.needs.remove(number);
            }
            return s.row.size();
        }

        int turn(State s, int number) {
            Slug slug = s.find(number);
            if (slug == null) {
                return NO_SUCH;
            }
            slug.turn = !slug.turn;
            return slug.turn ? 1 : 0;
        }

        int need(State s, int number, int otherNumber) {
            Slug slug = s.find(number);
            Slug other = s.find(otherNumber);
            if (slug == null || other == null) {
                return NO_SUCH;
            }
            if (slug == other) {
                return BAD_VALUE;
            }
            if (!slug.needs.remove(otherNumber)) {
                slug.needs.add(otherNumber);
            }
            return s.sound() ? slug.needs.size() : NOT_POSSIBLE;
        }

        int trim(State s, int number, int by) {
            Slug slug = s.find(number);
            if (slug == null) {
                return NO_SUCH;
            }
            if (by < 1 || by > 98) {
                return BAD_VALUE;
            }
            for (int i = 0; i < by; i++) {
                if (!s.canBeTrimmed(slug)) {
                    return NOT_POSSIBLE;
                }
                slug.beats--;
            }
            return slug.beats;
        }

        int restoreTail(State s, int number) {
            Slug slug = s.find(number);
            if (slug == null) {
                return NO_SUCH;
            }
            int back = slug.written - slug.beats;
            slug.beats = slug.written;
            return back;
        }

        int move(State s, int number, int place) {
            Slug slug = s.find(number);
            if (slug == null || place < 0 || place >= s.row.size()) {
                return NO_SUCH;
            }
            int previous = s.row.indexOf(slug);
            s.row.remove(slug);
            s.row.add(place, slug);
            return s.sound() ? previous : NOT_POSSIBLE;
        }

        int swap(State s, int number, int otherNumber) {
            Slug slug = s.find(number);
            Slug other = s.find(otherNumber);
            if (slug == null || other == null) {
                return NO_SUCH;
            }
            if (slug == other) {
                return BAD_VALUE;
            }
            int place = s.row.indexOf(slug);
            int otherPlace = s.row.indexOf(other);
            s.row.set(place, other);
            s.row.set(otherPlace, slug);
            return s.sound() ? Math.max(place, otherPlace) - Math.min(place, otherPlace) - 1 : NOT_POSSIBLE;
        }

        int split(State s, int number, int at) {
            Slug slug = s.find(number);
            if (slug == null) {
                return NO_SUCH;
            }
            if (at < 1 || at > 98) {
                return BAD_VALUE;
            }
            if (slug.beats <= at) {
                return NOT_POSSIBLE;
            }
            if (s.row.size() == 24) {
                return TOO_MANY;
            }
            Slug rest = slug.copy();
            rest.number = s.free();
            rest.written = slug.written - at;
            rest.beats = slug.beats - at;
            rest.needs.clear();
            rest.needs.add(number);
            slug.written = at;
            slug.beats = at;
            slug.turn = false;
            for (Slug other : s.row) {
                if (other.needs.contains(number)) {
                    other.needs.add(rest.number);
                }
            }
            s.row.add(s.row.indexOf(slug) + 1, rest);
            return rest.number;
        }

        int fit(State s, int act) {
            if (act < 0 || act >= s.acts().size()) {
                return NO_SUCH;
            }
            List<Slug> slugs = s.acts().get(act);
            int trimmed = 0;
            for (int i = slugs.size() - 1; i >= 0; i--) {
                while (s.off(act) > 0 && s.canBeTrimmed(slugs.get(i))) {
                    slugs.get(i).beats--;
                    trimmed++;
                }
            }
            return s.off(act) <= s.settings[1] ? trimmed : NOT_POSSIBLE;
        }

        int of(int number, int what) {
            Slug slug = now.find(number);
            if (slug == null) {
                return NO_SUCH;
            }
            int place = now.row.indexOf(slug);
            int begin = sum(now.row.subList(0, place));
            int neededBy = 0;
            int needed = 0;
            int act = 0;
            for (Slug other : now.row) {
                neededBy |= other.needs.contains(number) ? 1 << other.number : 0;
                needed |= slug.needs.contains(other.number) ? 1 << other.number : 0;
            }
            while (!now.acts().get(act).contains(slug)) {
                act++;
            }
            int[] answers = {place, slug.written, slug.beats, slug.turn ? 1 : 0, needed, neededBy, begin,
                begin / now.settings[0], act, now.room(slug)};
            return what < 0 || what > 9 ? BAD_VALUE : answers[what];
        }

        int at(int place) {
            return place < 0 || place >= now.row.size() ? NO_SUCH : now.row.get(place).number;
        }

        int atBeat(int beat) {
            if (beat < 0) {
                return BAD_VALUE;
            }
            List<Integer> beats = new ArrayList<>();
            for (Slug slug : now.row) {
                for (int i = 0; i < slug.beats; i++) {
                    beats.add(slug.number);
                }
            }
            return beat < beats.size() ? beats.get(beat) : NONE;
        }

        int ofAct(int act, int what) {
            if (act < 0 || act >= now.acts().size()) {
                return NO_SUCH;
            }
            List<Slug> slugs = now.acts().get(act);
            int begin = sum(now.row.subList(0, now.row.indexOf(slugs.get(0))));
            int room = 0;
            for (Slug slug : slugs) {
                room += now.room(slug);
            }
            int[] answers = {sum(slugs), now.targetOf(act), now.off(act) + 5000, now.fits(act) ? 1 : 0,
                now.open(act) ? 1 : 0, slugs.size(), begin, room};
            return what < 0 || what > 7 ? BAD_VALUE : answers[what];
        }

        int count(int what) {
            int set = 0;
            int fitting = 0;
            Slug longest = null;
            for (Slug slug : now.row) {
                set |= 1 << slug.number;
                longest = longest == null || slug.beats > longest.beats ? slug : longest;
            }
            for (int act = 0; act < now.acts().size(); act++) {
                fitting += now.fits(act) ? 1 : 0;
            }
            int pages = 0;
            while (pages * now.settings[0] < sum(now.row)) {
                pages++;
            }
            int[] answers = {set, now.acts().size(), sum(now.row), pages, now.allOff(), fitting,
                longest == null ? NONE : longest.number, now.settings[0], now.settings[1], now.settings[2],
                pad.length(), history.size()};
            return what < 0 || what > 11 ? BAD_VALUE : answers[what];
        }

        int places(int number) {
            if (now.find(number) == null) {
                return NO_SUCH;
            }
            int set = 0;
            for (int place = 0; place < now.row.size(); place++) {
                set |= move(now.copy(), number, place) >= 0 ? 1 << place : 0;
            }
            return set;
        }

        int bestSwap(int what) {
            if (what < 0 || what > 2) {
                return BAD_VALUE;
            }
            int[] best = {NONE, NONE, NONE};
            int least = now.allOff();
            for (int lower = 0; lower < now.row.size(); lower++) {
                for (int higher = lower + 1; higher < now.row.size(); higher++) {
                    State then = now.copy();
                    if (swap(then, at(lower), at(higher)) >= 0 && then.allOff() < least) {
                        least = then.allOff();
                        best = new int[] {at(lower), at(higher), least};
                    }
                }
            }
            return best[what];
        }

        int ifTurned(int number) {
            State then = now.copy();
            return turn(then, number) < 0 ? NO_SUCH : then.allOff();
        }

        int needs(int number) {
            if (now.find(number) == null) {
                return NO_SUCH;
            }
            int set = 0;
            for (int other : now.find(number).needs) {
                set |= 1 << other | needs(other);
            }
            return set;
        }

        int put(long characters) {
            StringBuilder more = new StringBuilder();
            boolean ended = false;
            for (int i = 0; i < 8; i++) {
                int code = (int) (characters >>> 8 * i & 255);
                if (ended && code != 0) {
                    return BAD_VALUE;
                }
                ended = code == 0;
                if (!ended && (code < 33 || code > 126)) {
                    return BAD_VALUE;
                }
                if (!ended) {
                    more.append((char) code);
                }
            }
            if (more.length() == 0) {
                return BAD_VALUE;
            }
            if (pad.length() + more.length() > 80) {
                return TOO_MANY;
            }
            pad += more.reverse();
            return pad.length();
        }

        int wipe() {
            int previous = pad.length();
            pad = "";
            return previous;
        }

        int fault() {
            for (int end = 1; end <= pad.length(); end++) {
                Matcher matcher = TEXT.matcher(pad.substring(0, end));
                if (!matcher.matches() && !matcher.hitEnd()) {
                    return end - 1;
                }
            }
            return TEXT.matcher(pad).matches() ? NONE : pad.length();
        }

        int carryOut() {
            if (fault() != NONE) {
                return BAD_TEXT;
            }
            State then = now.copy();
            int done = 0;
            for (String order : pad.split(";")) {
                State next = then.copy();
                if (ordered(next, order) < 0) {
                    break;
                }
                then = next;
                done++;
            }
            pad = "";
            return settle(then, done);
        }

        int ordered(State s, String order) {
            String[] parts = order.substring(1).split("[!>@~-]");
            int first = Integer.parseInt(parts[0]);
            int second = parts.length > 1 ? Integer.parseInt(parts[1]) : 0;
            switch (order.charAt(0)) {
                case 's': return slug(s, s.row.size(), first, order.endsWith("!") ? 1 : 0);
                case 'n': return need(s, first, second);
                case 'm': return move(s, first, second);
                case 'x': return swap(s, first, second);
                case 't': return trim(s, first, second);
                default: return fit(s, first);
            }
        }

        int undo() {
            if (history.isEmpty()) {
                return NOT_POSSIBLE;
            }
            now = history.remove(history.size() - 1);
            return history.size();
        }

        int save(int slot) {
            if (slot < 0 || slot > 1) {
                return BAD_VALUE;
            }
            slots[slot] = now.copy();
            return now.row.size();
        }

        int restore(int slot) {
            if (slot < 0 || slot > 1) {
                return BAD_VALUE;
            }
            return slots[slot] == null ? NOT_POSSIBLE : settle(slots[slot].copy(), slots[slot].row.size());
        }
    }

    /** A fixed row of numbers that looks mixed, so that every run of this test is the same. */
    private static long seed = 20261119;

    private static int below(int bound) {
        seed = seed * 6364136223846793005L + 1442695040888963407L;
        return (int) ((seed >>> 33) % bound);
    }

    private static int among(int least, int most) {
        int kind = below(40);
        if (kind == 0) {
            int[] far = {Integer.MIN_VALUE, Integer.MAX_VALUE, -1, 32, 24, 23, 1 << 16};
            return far[below(far.length)];
        }
        if (kind == 1) {
            return least - 1;
        }
        return kind == 2 ? most + 1 : least + below(most - least + 1);
    }

    private static int someSlug(Model model) {
        int size = model.now.row.size();
        return size == 0 || below(30) == 0 ? among(0, 23) : model.now.row.get(below(size)).number;
    }

    private static String someOrder(Model model) {
        int kind = below(16);
        int a = someSlug(model) & 31;
        int b = someSlug(model) & 31;
        switch (kind) {
            case 0: case 1: case 2: return "s" + below(100) + (below(3) == 0 ? "!" : "");
            case 3: case 4: return "n" + a + ">" + b;
            case 5: return "m" + a + "@" + below(24);
            case 6: return "x" + a + "~" + b;
            case 7: case 8: return "t" + a + "-" + below(12);
            case 9: case 10: return "f" + below(4);
            default: return "";
        }
    }

    private static long somePut(Model model) {
        StringBuilder text = new StringBuilder();
        if (below(12) == 0) {
            String signs = "snmxtf0123456789!>@~-;";
            for (int i = below(9); i > 0; i--) {
                text.append(signs.charAt(below(signs.length())));
            }
        } else {
            text.append(model.pad.isEmpty() || model.pad.endsWith(";") ? "" : ";").append(someOrder(model));
        }
        long characters = 0;
        for (int i = 0; i < Math.min(8, text.length()); i++) {
            characters = characters << 8 | text.charAt(i);
        }
        return below(40) == 0 ? characters ^ 1L << below(64) : characters;
    }

    private static String what;
    private static int wrong = 0;

    private static void due(int run, int call, int got, int want) {
        if (got != want) {
            wrong++;
            if (wrong <= 20) {
                System.out.println("run " + run + ", call " + call + ": " + what + " answered " + got + ", due is " + want);
            }
        }
    }

    private static int changeOf(BeatSlugs board, int kind, int a, int b, int c) {
        switch (kind) {
            case 0: return board.set(a, b);
            case 1: return board.target(a, b);
            case 2: return board.slug(a, b, c);
            case 3: return board.drop(a);
            case 4: return board.turn(a);
            case 5: return board.need(a, b);
            case 6: return board.trim(a, b);
            case 7: return board.restoreTail(a);
            case 8: return board.move(a, b);
            case 9: return board.swap(a, b);
            case 10: return board.split(a, b);
            default: return board.fit(a);
        }
    }

    private static void change(int run, int call, BeatSlugs board, Model model, int most) {
        int[] kinds = {0, 1, 2, 2, 2, 2, 3, 4, 5, 5, 5, 6, 6, 7, 8, 8, 9, 9, 10, 11, 11};
        int kind = kinds[below(kinds.length)];
        if (kind == 2 && model.now.row.size() > most && below(8) > 0) {
            kind = 3;
        }
        int size = model.now.row.size();
        int slug = someSlug(model);
        int a = slug;
        int b = 0;
        int c = 0;
        switch (kind) {
            case 0: a = among(0, 2); b = a == 0 ? among(4, 60) : a == 1 ? among(0, 20) : among(0, 90); break;
            case 1: a = among(0, 5); b = below(2) == 0 ? among(1, 999) : among(20, 120); break;
            case 2: a = among(0, size); b = among(1, 99); c = below(3) == 0 ? among(0, 1) : 0; break;
            case 5: case 9: b = someSlug(model); break;
            case 6: b = below(2) == 0 ? among(1, 98) : among(1, 5); break;
            case 8: b = among(0, Math.max(0, size - 1)); break;
            case 10: b = below(2) == 0 ? among(1, 98) : among(1, 20); break;
            case 11: a = among(0, Math.max(0, model.now.acts().size() - 1)); break;
            default: break;
        }
        what = "change " + kind + " of " + a + ", " + b + ", " + c;
        due(run, call, changeOf(board, kind, a, b, c), model.change(kind, a, b, c));
    }

    private static void look(int run, int call, BeatSlugs board, Model model) {
        int kind = below(12);
        int slug = someSlug(model);
        int number = kind < 3 ? among(0, 9) : among(0, 11);
        int act = among(0, Math.max(0, model.now.acts().size() - 1));
        int beat = among(0, Math.max(0, sum(model.now.row)));
        int place = among(0, Math.max(0, model.now.row.size() - 1));
        what = "look " + kind + " at " + slug + ", " + number + ", " + act + ", " + beat + ", " + place;
        switch (kind) {
            case 0: case 1: case 2: due(run, call, board.of(slug, number), model.of(slug, number)); break;
            case 3: due(run, call, board.at(place), model.at(place)); break;
            case 4: due(run, call, board.atBeat(beat), model.atBeat(beat)); break;
            case 5: due(run, call, board.ofAct(act, number), model.ofAct(act, number)); break;
            case 6: due(run, call, board.count(number), model.count(number)); break;
            case 7: due(run, call, board.places(slug), model.places(slug)); break;
            case 8: due(run, call, board.bestSwap(number & 3), model.bestSwap(number & 3)); break;
            case 9: due(run, call, board.ifFitted(act), model.fit(model.now.copy(), act)); break;
            case 10: due(run, call, board.ifTurned(slug), model.ifTurned(slug)); break;
            default: due(run, call, board.needs(slug), model.needs(slug)); break;
        }
    }

    private static void write(int run, int call, BeatSlugs board, Model model) {
        int kind = below(8);
        what = "text " + kind + " with the pad " + model.pad;
        if (kind < 4) {
            long characters = somePut(model);
            what = "put(" + characters + ")";
            due(run, call, board.put(characters), model.put(characters));
        } else if (kind < 6) {
            due(run, call, board.fault(), model.fault());
        } else if (kind == 6 && (model.fault() == NONE || below(4) == 0)) {
            due(run, call, board.carryOut(), model.carryOut());
        } else if (model.fault() != NONE || below(4) == 0) {
            due(run, call, board.wipe(), model.wipe());
        }
    }

    private static void keep(int run, int call, BeatSlugs board, Model model) {
        int kind = below(3);
        int slot = among(0, 1);
        what = "keep " + kind + " in " + slot;
        switch (kind) {
            case 0: due(run, call, board.undo(), model.undo()); break;
            case 1: due(run, call, board.save(slot), model.save(slot)); break;
            default: due(run, call, board.restore(slot), model.restore(slot)); break;
        }
    }

    private static void oneRun(int run) {
        BeatSlugs board = new BeatSlugs();
        Model model = new Model();
        int most = 4 + below(22);
        for (int call = 0; call < CALLS && wrong == 0; call++) {
            int kind = below(16);
            if (kind < 6) {
                change(run, call, board, model, most);
            } else if (kind < 11) {
                look(run, call, board, model);
            } else if (kind < 15) {
                write(run, call, board, model);
            } else {
                keep(run, call, board, model);
            }
        }
    }

    public static void main(String[] args) {
        for (int run = 0; run < RUNS; run++) {
            oneRun(run);
        }
        System.out.println(wrong == 0 ? "model: all answers are as due" : "model: " + wrong + " answers are not as due");
        if (wrong != 0) {
            System.exit(1);
        }
    }
}
