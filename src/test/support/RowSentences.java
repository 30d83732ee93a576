import java.util.ArrayList;
import java.util.Collections;
import java.util.List;

/** "Changes of the row". */
final class RowSentences extends Sentences {
    static void run() {
        moveToEachPlace();
        swapOfEachTwo();
        behindAllThatItNeeds();
        splitAtEachBeat();
        keepsTheseBeats();
        newOneWithTheRest();
        comesNextBehind();
        needsTheFirstOneAlone();
        turnGoesToTheNewOne();
        neededBoth();
        fitFromTheLastOne();
        fitOnlyWithinTheSlack();
        fitByTrimmingNothing();
        noneIsMadeLonger();
    }

    /** Six slugs, of which some need others. */
    private static BeatSlugs boardWithNeeds() {
        BeatSlugs board = boardOf(11, 12, -13, 14, 15, -16);
        board.need(2, 0);
        board.need(4, 2);
        board.need(4, 1);
        board.need(5, 3);
        return board;
    }

    private static List<Integer> order(BeatSlugs board) {
        List<Integer> order = new ArrayList<>();
        for (int place = 0; board.at(place) >= 0; place++) {
            order.add(board.at(place));
        }
        return order;
    }

    private static boolean isSound(List<Integer> order, BeatSlugs board) {
        int ahead = 0;
        for (int slug : order) {
            if ((board.of(slug, 4) & ~ahead) != 0) {
                return false;
            }
            ahead |= 1 << slug;
        }
        return true;
    }

    private static List<Integer> moved(BeatSlugs board, int slug, int place) {
        List<Integer> order = order(board);
        order.remove((Integer) slug);
        order.add(place, slug);
        return order;
    }

    private static List<Integer> swapped(BeatSlugs board, int slug, int other) {
        List<Integer> order = order(board);
        Collections.swap(order, order.indexOf(slug), order.indexOf(other));
        return order;
    }

    private static void moveToEachPlace() {
        sentence("Changes of the row", "To move a slug to a place is to take it out, and to put it in so that it has that place");
        for (int size : new int[] {1, 2, 6, 24}) {
            for (int slug = 0; slug < size; slug++) {
                for (int place = 0; place < size; place++) {
                    BeatSlugs board = boardOfAlike(size, 5);
                    List<Integer> due = moved(board, slug, place);
                    is("move(" + slug + ", " + place + ")", board.move(slug, place), slug);
                    is("its place", board.of(slug, 0), place);
                    yes("move of " + slug + " to " + place + " of " + size, order(board).equals(due));
                }
            }
        }
    }

    private static void swapOfEachTwo() {
        sentence("Changes of the row", "to swap two slugs is to exchange their places");
        for (int size : new int[] {2, 6, 24}) {
            for (int slug = 0; slug < size; slug++) {
                for (int other = 0; other < size; other++) {
                    BeatSlugs board = boardOfAlike(size, 5);
                    List<Integer> due = swapped(board, slug, other);
                    int between = Math.abs(slug - other) - 1;
                    is("swap(" + slug + ", " + other + ")", board.swap(slug, other), slug == other ? BAD_VALUE : between);
                    yes("swap of " + slug + " and " + other + " of " + size, order(board).equals(due));
                }
            }
        }
    }

    private static void behindAllThatItNeeds() {
        sentence("Changes of the row", "Neither is done if a slug would not be behind all that it needs then");
        for (int slug = 0; slug < 6; slug++) {
            for (int number = 0; number < 6; number++) {
                BeatSlugs board = boardWithNeeds();
                List<Integer> due = moved(board, slug, number);
                boolean done = isSound(due, board);
                is("move(" + slug + ", " + number + ")", board.move(slug, number), done ? slug : NOT_POSSIBLE);
                yes("row of move(" + slug + ", " + number + ")", order(board).equals(done ? due : order(boardWithNeeds())));
                if (slug != number) {
                    board = boardWithNeeds();
                    due = swapped(board, slug, number);
                    done = isSound(due, board);
                    int between = Math.abs(slug - number) - 1;
                    is("swap(" + slug + ", " + number + ")", board.swap(slug, number), done ? between : NOT_POSSIBLE);
                    yes("row of swap(" + slug + ", " + number + ")", order(board).equals(done ? due : order(boardWithNeeds())));
                }
            }
        }
    }

    private static void splitAtEachBeat() {
        sentence("Changes of the row", "To split a slug at a beat (1 to its beats as trimmed - 1)");
        for (int at = 1; at <= 98; at++) {
            BeatSlugs written = boardOf(99);
            is("99 beats at " + at, written.split(0, at), 1);
            BeatSlugs trimmed = boardOf(99);
            trimmed.trim(0, 40);
            is("59 beats of 99 at " + at, trimmed.split(0, at), at < 59 ? 1 : NOT_POSSIBLE);
            is("1 beat at " + at, boardOf(1).split(0, at), NOT_POSSIBLE);
            is("2 beats at " + at, boardOf(2).split(0, at), at < 2 ? 1 : NOT_POSSIBLE);
        }
    }

    private static void keepsTheseBeats() {
        sentence("Changes of the row", "it keeps these beats, as written and as trimmed");
        for (int at = 1; at <= 29; at++) {
            BeatSlugs board = boardOf(40);
            board.trim(0, 10);
            board.split(0, at);
            is("written, at " + at, board.of(0, 1), at);
            is("trimmed, at " + at, board.of(0, 2), at);
            is("nothing to get back, at " + at, board.restoreTail(0), 0);
        }
    }

    private static void newOneWithTheRest() {
        sentence("Changes of the row", "a new slug with the rest (as written: what was written less these beats, as trimmed likewise)");
        for (int at = 1; at <= 29; at++) {
            BeatSlugs board = boardOf(40);
            board.trim(0, 10);
            board.split(0, at);
            is("written, at " + at, board.of(1, 1), 40 - at);
            is("trimmed, at " + at, board.of(1, 2), 30 - at);
            is("all beats, at " + at, board.count(2), 30);
            is("to get back, at " + at, board.restoreTail(1), 10);
        }
    }

    private static void comesNextBehind() {
        sentence("Changes of the row", "comes next behind it");
        BeatSlugs board = boardOf(5, 6, 7);
        board.split(0, 2);
        inRow("the first one", board, 0, 3, 1, 2);
        board.split(2, 2);
        inRow("the last one", board, 0, 3, 1, 2, 4);
        board.split(3, 1);
        inRow("one between", board, 0, 3, 5, 1, 2, 4);
        BeatSlugs full = boardOfAlike(23, 5);
        full.split(22, 1);
        is("in the last place of all", full.at(23), 23);
    }

    private static void needsTheFirstOneAlone() {
        sentence("Changes of the row", "it needs the first one alone");
        BeatSlugs board = boardWithNeeds();
        is("split", board.split(4, 5), 6);
        is("what the new one needs", board.of(6, 4), 1 << 4);
        is("what the first one needs", board.of(4, 4), 4 + 2);
        is("what needs the first one", board.of(4, 5), 1 << 6);
        board.drop(6);
        board.slug(0, 5, 0);
        is("split of one without needs", board.split(0, 5), 7);
        is("what the new one needs", board.of(7, 4), 1);
        is("what the first one needs", board.of(0, 4), 0);
    }

    private static void turnGoesToTheNewOne() {
        sentence("Changes of the row", "if the first one was a turn, the new one is, and the first one is not any more");
        BeatSlugs board = boardOf(10, -20, 30);
        is("split of a turn", board.split(1, 5), 3);
        is("the new one is", board.of(3, 3), 1);
        is("the first one is not", board.of(1, 3), 0);
        is("both are in the act", board.ofAct(0, 5), 3);
        is("split of a plain one", board.split(0, 5), 4);
        is("neither is", board.of(0, 3) + board.of(4, 3), 0);
        board.drop(3);
        is("the number of a turn that went", board.split(2, 5), 3);
        is("neither is", board.of(2, 3) + board.of(3, 3), 0);
    }

    private static void neededBoth() {
        sentence("Changes of the row", "All that needed the first one need the new one, too");
        BeatSlugs board = boardOfAlike(23, 5);
        for (int slug = 2; slug < 23; slug++) {
            board.need(slug, 1);
        }
        is("split", board.split(1, 2), 23);
        for (int slug = 2; slug < 23; slug++) {
            is("what " + slug + " needs", board.of(slug, 4), 2 + (1 << 23));
        }
        is("what needs the new one", board.of(23, 5), (1 << 23) - 1 - 3);
        is("what needs the first one", board.of(1, 5), (1 << 24) - 1 - 3);
        is("what 0 needs", board.of(0, 4), 0);
        for (int slug = 0; slug < 22; slug++) {
            BeatSlugs last = boardOfAlike(23, 5);
            last.move(slug, 22);
            last.need(slug, 22);
            last.split(22, 1);
            is("what the last one, " + slug + ", needs", last.of(slug, 4), 3 << 22);
        }
    }

    private static void fitFromTheLastOne() {
        sentence("Changes of the row", "To fit an act is to trim its slugs from the last one to the first one, each as far as it can be, and as is needed, until the act is not above its target");
        int[] written = {20, 30, 40, 11};
        for (int target = 51; target <= 101; target++) {
            BeatSlugs board = boardOf(20, 30, 40, -11, 50, -60);
            board.target(0, target);
            int left = 101 - target;
            is("fit to " + target, board.fit(0), left);
            for (int slug = 3; slug >= 0; slug--) {
                int by = Math.min(left, written[slug] / 2);
                is("fit to " + target + ", slug " + slug, board.of(slug, 2), written[slug] - by);
                left -= by;
            }
            is("the act", board.ofAct(0, 2), 5000);
            is("the next act", board.ofAct(1, 0), 110);
        }
    }

    private static void fitOnlyWithinTheSlack() {
        sentence("Changes of the row", "it is done only if it is not above its target and SLACK, together, then");
        for (int slack = 0; slack <= 20; slack++) {
            for (int above = 0; above <= 22; above++) {
                BeatSlugs board = boardOf(30, -30);
                board.set(BeatSlugs.SLACK, slack);
                board.target(0, 30 - above);
                is("above by " + above + ", SLACK " + slack, board.fit(0), above <= slack ? 30 : NOT_POSSIBLE);
                is("the act then", board.ofAct(0, 0), above <= slack ? 30 : 60);
            }
        }
    }

    private static void fitByTrimmingNothing() {
        sentence("Changes of the row", "(an act that is not above its target is fitted by trimming nothing)");
        for (int target : new int[] {60, 61, 62, 63, 999}) {
            BeatSlugs board = boardOf(30, -30);
            board.target(0, target);
            is("60 beats of " + target, board.fit(0), 0);
            is("60 beats of " + target + ", then", board.ofAct(0, 0), 60);
        }
        BeatSlugs above = boardOf(30, -31);
        is("one above is trimmed, within the SLACK, too", above.fit(0), 1);
    }

    private static void noneIsMadeLonger() {
        sentence("Changes of the row", "(No slug is made longer.)");
        BeatSlugs board = boardOf(20, 20, -40);
        board.trim(0, 10);
        board.target(0, 90);
        is("below its target", board.fit(0), 0);
        is("a trimmed one", board.of(0, 2), 10);
        board.set(BeatSlugs.TRIM, 10);
        board.target(0, 65);
        is("trimmed further than can be now", board.fit(0), 5);
        is("the last one is not able to more", board.of(2, 2), 36);
        is("then the one ahead", board.of(1, 2), 19);
        is("a trimmed one", board.of(0, 2), 10);
        board.target(0, 60);
        is("not possible", board.fit(0), NOT_POSSIBLE);
    }
}
