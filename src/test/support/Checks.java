import java.util.ArrayList;
import java.util.Arrays;
import java.util.List;

/** What the tests share: answers held against those that are due, and boards that are quickly made. */
abstract class Checks {
    static final int NO_SUCH = -1, BAD_VALUE = -2, BAD_TEXT = -3, TOO_MANY = -4, NOT_POSSIBLE = -5, NONE = -6;
    static final int FAR = Integer.MAX_VALUE, BELOW = Integer.MIN_VALUE;
    static final int MOST_SLUGS = 24;
    private static final int MOST_TOLD = 60;
    private static int wrong = 0;

    static void due(String what, long got, long want) {
        if (got != want) {
            tell(what + " answered " + got + ", due is " + want);
        }
    }

    static void holds(String what, boolean good) {
        if (!good) {
            tell(what);
        }
    }

    static void tell(String what) {
        wrong++;
        if (wrong <= MOST_TOLD) {
            System.out.println(what);
        }
    }

    static void end(String name) {
        System.out.println(name + (wrong == 0 ? ": all answers are as due" : ": " + wrong + " answers are not as due"));
        if (wrong != 0) {
            System.exit(1);
        }
    }

    /** A board of plain slugs, or turns where the beats are below 0. */
    static BeatSlugs boardOf(int... beats) {
        BeatSlugs board = new BeatSlugs();
        for (int place = 0; place < beats.length; place++) {
            due("slug at " + place, board.slug(place, Math.abs(beats[place]), beats[place] < 0 ? 1 : 0), place);
        }
        return board;
    }

    /** A board of that many slugs that are all alike, turns where the beats are below 0. */
    static BeatSlugs boardOfAlike(int slugs, int beats) {
        int[] all = new int[slugs];
        Arrays.fill(all, beats);
        return boardOf(all);
    }

    static long packed(String text) {
        long characters = 0;
        for (int i = 0; i < text.length(); i++) {
            characters = characters << 8 | text.charAt(i);
        }
        return characters;
    }

    /** Makes the pad hold a text, whatever it held before. */
    static void write(BeatSlugs board, String text) {
        board.wipe();
        for (int i = 0; i < text.length(); i += 8) {
            String part = text.substring(i, Math.min(text.length(), i + 8));
            due("put " + part, board.put(packed(part)), i + part.length());
        }
    }

    static void row(String what, BeatSlugs board, int... slugs) {
        for (int place = 0; place < slugs.length; place++) {
            due(what + ": at(" + place + ")", board.at(place), slugs[place]);
        }
        due(what + ": the end of the row", board.at(slugs.length), NO_SUCH);
    }

    /** All that can be seen of the slugs, the acts and the settings: some 15 calls for each slug. */
    static List<Integer> view(BeatSlugs board) {
        List<Integer> view = new ArrayList<>();
        for (int what = 0; what < 10; what++) {
            view.add(board.count(what));
        }
        for (int slug = 0; slug < MOST_SLUGS; slug++) {
            if ((view.get(0) >> slug & 1) != 0) {
                for (int what = 0; what < 10; what++) {
                    view.add(board.of(slug, what));
                }
                view.add(board.needs(slug));
            }
        }
        for (int act = 0; act < view.get(1); act++) {
            view.add(board.ofAct(act, 1));
            view.add(board.ofAct(act, 2));
        }
        return view;
    }
}
