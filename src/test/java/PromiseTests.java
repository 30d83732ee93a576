/** At least one test for each promise: ordinary inputs, the edges that the document names, wrong inputs. */
public final class PromiseTests extends Checks {
    private static void newObject() {
        BeatSlugs board = new BeatSlugs();
        int[] counts = {0, 0, 0, 0, 0, 0, NONE, 16, 2, 50, 0, 0};
        for (int what = 0; what < counts.length; what++) {
            due("1 count " + what, board.count(what), counts[what]);
        }
        due("1 no slug", board.of(0, 0), NO_SUCH);
        due("1 no act", board.ofAct(0, 0), NO_SUCH);
        due("1 no undo", board.undo(), NOT_POSSIBLE);
        due("1 no saved state", board.restore(0), NOT_POSSIBLE);
        for (int act = 0; act < 6; act++) {
            due("1 target " + act, board.target(act, 1), 60);
        }
    }

    private static void set() {
        BeatSlugs board = new BeatSlugs();
        int[][] ranges = {{4, 60, 16}, {0, 20, 2}, {0, 90, 50}};
        for (int setting = 0; setting < 3; setting++) {
            int least = ranges[setting][0];
            int most = ranges[setting][1];
            due("2 below", board.set(setting, least - 1), BAD_VALUE);
            due("2 above", board.set(setting, most + 1), BAD_VALUE);
            due("2 far", board.set(setting, FAR), BAD_VALUE);
            due("2 first value", board.set(setting, least), ranges[setting][2]);
            due("2 least", board.set(setting, most), least);
            due("2 most", board.set(setting, most), most);
            due("2 counted", board.count(7 + setting), most);
        }
        due("2 no setting", board.set(3, 10), BAD_VALUE);
        due("2 no setting", board.set(3, 0), BAD_VALUE);
        due("2 no setting", board.set(-1, 10), BAD_VALUE);
        due("2 no setting", board.set(-1, 0), BAD_VALUE);
        due("2 recorded", board.count(11), 6);
        BeatSlugs trimmed = boardOf(20);
        trimmed.trim(0, 10);
        due("2 TRIM down", trimmed.set(BeatSlugs.TRIM, 10), 50);
        due("2 what is trimmed stays so", trimmed.of(0, 2), 10);
        due("2 no room is below 0", trimmed.of(0, 9), 0);
        due("2 no more room", trimmed.trim(0, 1), NOT_POSSIBLE);
    }

    private static void target() {
        BeatSlugs board = boardOf(-1, -1, -1, -1, -1, -1, -1, 1);
        due("3 no act", board.target(-1, 5), NO_SUCH);
        due("3 no act", board.target(6, 5), NO_SUCH);
        due("3 no act first", board.target(6, 0), NO_SUCH);
        due("3 too few", board.target(0, 0), BAD_VALUE);
        due("3 too many", board.target(0, 1000), BAD_VALUE);
        due("3 first one", board.target(0, 999), 60);
        due("3 previous one", board.target(0, 1), 999);
        due("3 of act 0", board.ofAct(0, 1), 1);
        due("3 of act 1", board.ofAct(1, 1), 60);
        due("3 act 5", board.target(5, 7), 60);
        for (int act = 5; act < 8; act++) {
            due("3 of act " + act, board.ofAct(act, 1), 7);
        }
    }

    private static void slug() {
        BeatSlugs board = new BeatSlugs();
        due("4 no place", board.slug(1, 5, 0), NO_SUCH);
        due("4 no place", board.slug(-1, 0, 0), NO_SUCH);
        due("4 no beats", board.slug(0, 0, 0), BAD_VALUE);
        due("4 many beats", board.slug(0, 100, 0), BAD_VALUE);
        due("4 turn", board.slug(0, 5, 2), BAD_VALUE);
        due("4 turn", board.slug(0, 5, -1), BAD_VALUE);
        due("4 nothing recorded", board.count(11), 0);
        due("4 first", board.slug(0, 1, 0), 0);
        due("4 ahead", board.slug(0, 99, 1), 1);
        due("4 between", board.slug(1, 50, 0), 2);
        due("4 at the end", board.slug(3, 7, 0), 3);
        row("4", board, 1, 2, 0, 3);
        due("4 written", board.of(1, 1), 99);
        due("4 trimmed", board.of(1, 2), 99);
        due("4 a turn", board.of(1, 3), 1);
        due("4 plain", board.of(2, 3), 0);
        due("4 turns end acts", board.ofAct(0, 5), 1);
        board.drop(1);
        board.drop(0);
        due("4 lowest free", board.slug(0, 8, 0), 0);
        due("4 plain again", board.of(0, 3), 0);
        due("4 lowest free", board.slug(0, 8, 0), 1);
        due("4 plain again", board.of(1, 3), 0);
        for (int slug = 4; slug < 24; slug++) {
            due("4 many", board.slug(slug, 2, 0), slug);
        }
        due("4 full", board.slug(0, 2, 0), TOO_MANY);
        due("4 full, at the end", board.slug(24, 2, 0), TOO_MANY);
        due("4 no place first", board.slug(25, 0, 0), NO_SUCH);
        due("4 bad beats first", board.slug(0, 0, 0), BAD_VALUE);
        due("4 all of them", board.count(0), (1 << 24) - 1);
    }

    private static void drop() {
        BeatSlugs board = boardOf(1, 2, -3, 4);
        board.need(2, 0);
        board.need(2, 1);
        board.need(3, 2);
        due("5 none", board.drop(4), NO_SUCH);
        due("5 none", board.drop(-1), NO_SUCH);
        due("5 none", board.drop(32), NO_SUCH);
        due("5 left", board.drop(0), 3);
        row("5", board, 1, 2, 3);
        due("5 needed no more", board.of(2, 4), 2);
        due("5 gone", board.of(0, 0), NO_SUCH);
        due("5 twice", board.drop(0), NO_SUCH);
        due("5 left", board.drop(2), 2);
        due("5 no turn is left", board.count(1), 1);
        due("5 needs nothing any more", board.of(3, 4), 0);
        due("5 came again", board.slug(2, 6, 0), 0);
        due("5 came again", board.slug(3, 6, 0), 2);
        due("5 is a new one", board.of(2, 4), 0);
        due("5 is plain", board.of(2, 3), 0);
        due("5 nothing needs it", board.of(2, 5), 0);
        board.need(0, 3);
        due("5 needs it", board.of(0, 4), 8);
        due("5 left", board.drop(3), 3);
        due("5 needs nothing any more", board.of(0, 4), 0);
        board.drop(0);
        board.drop(1);
        due("5 the last one", board.drop(2), 0);
    }

    private static void turn() {
        BeatSlugs board = boardOf(1, 2);
        due("6 none", board.turn(2), NO_SUCH);
        due("6 none", board.turn(FAR), NO_SUCH);
        due("6 one act", board.count(1), 1);
        due("6 a turn", board.turn(0), 1);
        due("6 two acts", board.count(1), 2);
        due("6 an open one", board.ofAct(1, 4), 1);
        due("6 plain", board.turn(0), 0);
        due("6 one act", board.count(1), 1);
        due("6 a turn", board.turn(1), 1);
        due("6 none open", board.ofAct(0, 4), 0);
        due("6 a turn", board.of(1, 3), 1);
        due("6 one slug, an open act", boardOf(1).count(1), 1);
        due("6 one turn, one act", boardOf(-1).count(1), 1);
    }

    private static void need() {
        BeatSlugs board = boardOf(1, 2, 3);
        due("7 none", board.need(3, 0), NO_SUCH);
        due("7 none", board.need(0, 3), NO_SUCH);
        due("7 none first", board.need(5, 5), NO_SUCH);
        due("7 the same", board.need(1, 1), BAD_VALUE);
        due("7 behind", board.need(0, 1), NOT_POSSIBLE);
        due("7 one", board.need(2, 0), 1);
        due("7 two", board.need(2, 1), 2);
        due("7 set", board.of(2, 4), 3);
        due("7 not any more", board.need(2, 0), 1);
        due("7 set", board.of(2, 4), 2);
        due("7 not any more", board.need(2, 1), 0);
        due("7 changes", board.count(11), 6);
        board.move(2, 0);
        due("7 ahead now", board.need(0, 2), 1);
        due("7 behind now", board.need(2, 0), NOT_POSSIBLE);
    }

    private static void trim() {
        BeatSlugs board = boardOf(99, 1, 10, 3);
        due("8 none", board.trim(4, 0), NO_SUCH);
        due("8 by 0", board.trim(0, 0), BAD_VALUE);
        due("8 by 99", board.trim(0, 99), BAD_VALUE);
        due("8 too far", board.trim(0, 98), NOT_POSSIBLE);
        due("8 too far by one", board.trim(0, 50), NOT_POSSIBLE);
        due("8 all but one", board.trim(0, 48), 51);
        due("8 one more", board.trim(0, 1), 50);
        due("8 no more", board.trim(0, 1), NOT_POSSIBLE);
        due("8 at least one", board.trim(1, 1), NOT_POSSIBLE);
        due("8 half", board.trim(2, 5), 5);
        due("8 rounded down", board.trim(3, 2), NOT_POSSIBLE);
        due("8 rounded down", board.trim(3, 1), 2);
        due("8 down to one", boardOf(2).trim(0, 1), 1);
        due("8 as written", board.of(0, 1), 99);
        due("8 all beats", board.count(2), 50 + 1 + 5 + 2);
        board.set(BeatSlugs.TRIM, 90);
        due("8 more room", board.trim(0, 40), 10);
        due("8 no more", board.trim(0, 1), NOT_POSSIBLE);
        board.set(BeatSlugs.TRIM, 0);
        due("8 no trims", board.trim(2, 1), NOT_POSSIBLE);
    }

    private static void restoreTail() {
        BeatSlugs board = boardOf(20, 30);
        board.trim(0, 7);
        board.trim(0, 2);
        due("9 none", board.restoreTail(2), NO_SUCH);
        due("9 back", board.restoreTail(0), 9);
        due("9 as written", board.of(0, 2), 20);
        due("9 nothing more", board.restoreTail(0), 0);
        due("9 nothing trimmed", board.restoreTail(1), 0);
        due("9 recorded too", board.count(11), 6);
    }

    private static void move() {
        BeatSlugs board = boardOf(1, 2, 3, 4);
        due("10 none", board.move(4, 0), NO_SUCH);
        due("10 no place", board.move(0, 4), NO_SUCH);
        due("10 no place", board.move(0, -1), NO_SUCH);
        due("10 to the end", board.move(0, 3), 0);
        row("10 to the end", board, 1, 2, 3, 0);
        due("10 ahead", board.move(3, 0), 2);
        row("10 ahead", board, 3, 1, 2, 0);
        due("10 stays", board.move(1, 1), 1);
        row("10 stays", board, 3, 1, 2, 0);
        board.need(0, 1);
        due("10 ahead of what it needs", board.move(0, 1), NOT_POSSIBLE);
        due("10 next behind it", board.move(0, 2), 3);
        row("10 next behind it", board, 3, 1, 0, 2);
        due("10 behind what needs it", board.move(1, 2), NOT_POSSIBLE);
        due("10 far behind", board.move(1, 3), NOT_POSSIBLE);
        due("10 others can", board.move(2, 0), 3);
        row("10 others can", board, 2, 3, 1, 0);
        due("10 recorded", board.undo(), 5);
        row("10 undone", board, 3, 1, 0, 2);
    }

    private static void swap() {
        BeatSlugs board = boardOf(1, 2, 3, 4, 5);
        due("11 none", board.swap(5, 0), NO_SUCH);
        due("11 none", board.swap(0, 5), NO_SUCH);
        due("11 none first", board.swap(7, 7), NO_SUCH);
        due("11 the same", board.swap(2, 2), BAD_VALUE);
        due("11 three between", board.swap(4, 0), 3);
        row("11", board, 4, 1, 2, 3, 0);
        due("11 none between", board.swap(1, 2), 0);
        row("11", board, 4, 2, 1, 3, 0);
        board.need(3, 1);
        due("11 needs it", board.swap(1, 3), NOT_POSSIBLE);
        due("11 needs it", board.swap(3, 1), NOT_POSSIBLE);
        due("11 ahead of what it needs", board.swap(3, 4), NOT_POSSIBLE);
        due("11 behind what needs it", board.swap(1, 0), NOT_POSSIBLE);
        due("11 between", board.swap(2, 1), 0);
        row("11 between", board, 4, 1, 2, 3, 0);
        due("11 all the way", board.swap(4, 0), 3);
        row("11 all the way", board, 0, 1, 2, 3, 4);
    }

    private static void split() {
        BeatSlugs board = boardOf(10, 40, -20, 30);
        board.need(2, 1);
        board.need(3, 1);
        board.need(1, 0);
        board.trim(1, 15);
        due("12 none", board.split(4, 1), NO_SUCH);
        due("12 at 0", board.split(1, 0), BAD_VALUE);
        due("12 at 99", board.split(1, 99), BAD_VALUE);
        due("12 at its end", board.split(1, 25), NOT_POSSIBLE);
        due("12 behind its end", board.split(1, 98), NOT_POSSIBLE);
        due("12 new one", board.split(1, 24), 4);
        row("12", board, 0, 1, 4, 2, 3);
        due("12 written", board.of(1, 1), 24);
        due("12 trimmed", board.of(1, 2), 24);
        due("12 written of the new one", board.of(4, 1), 16);
        due("12 trimmed of the new one", board.of(4, 2), 1);
        due("12 keeps its needs", board.of(1, 4), 1);
        due("12 needs the first one alone", board.of(4, 4), 2);
        due("12 both are needed", board.of(2, 4), 2 + 16);
        due("12 both are needed", board.of(3, 4), 2 + 16);
        due("12 needed by all", board.of(1, 5), 4 + 8 + 16);
        due("12 plain", board.of(4, 3), 0);
        due("12 a turn", board.split(2, 1), 5);
        due("12 not a turn any more", board.of(2, 3), 0);
        due("12 a turn", board.of(5, 3), 1);
        due("12 needs", board.of(5, 4), 4);
        due("12 acts", board.count(1), 2);
        due("12 one beat", board.split(4, 1), NOT_POSSIBLE);
        for (int slug = 6; slug < 24; slug++) {
            board.slug(0, 2, 0);
        }
        due("12 not possible first", board.split(4, 1), NOT_POSSIBLE);
        due("12 full", board.split(3, 1), TOO_MANY);
        board.drop(0);
        due("12 room again", board.split(3, 1), 0);
        due("12 behind", board.of(0, 0), 23);
        BeatSlugs turned = boardOf(5, 10);
        turned.move(0, 1);
        turned.need(0, 1);
        due("12 the slug 0 needs it", turned.split(1, 4), 2);
        due("12 the slug 0 needs both", turned.of(0, 4), 2 + 4);
    }

    private static void fit() {
        BeatSlugs board = boardOf(20, 30, -40, 10, 100 - 1);
        due("13 none", board.fit(2), NO_SUCH);
        due("13 none", board.fit(-1), NO_SUCH);
        due("13 fitted from its end", board.fit(0), 30);
        due("13 last one first", board.of(2, 2), 20);
        due("13 then the one ahead", board.of(1, 2), 20);
        due("13 the first one not", board.of(0, 2), 20);
        due("13 nothing more", board.fit(0), 0);
        due("13 an open act", board.fit(1), 49);
        due("13 an open act", board.of(4, 2), 50);
        due("13 written stays", board.of(4, 1), 99);
        board.target(0, 999);
        due("13 below its target", board.fit(0), 0);
        due("13 nothing is longer", board.of(2, 2), 20);

        BeatSlugs slack = boardOf(-99, -99);
        slack.set(BeatSlugs.TRIM, 0);
        slack.target(0, 97);
        slack.target(1, 96);
        due("13 above by the slack", slack.fit(0), 0);
        due("13 above by more", slack.fit(1), NOT_POSSIBLE);
        slack.set(BeatSlugs.TRIM, 2);
        due("13 trimmed within the slack, too", slack.fit(0), 1);
        due("13 as far as can be", slack.fit(1), 1);
        due("13 not possible", slack.of(1, 2), 98);
    }

    private static void of() {
        BeatSlugs board = boardOf(10, -6, 16, -32, 5);
        board.need(3, 0);
        board.need(3, 2);
        board.need(4, 3);
        board.trim(3, 6);
        int[] third = {3, 32, 26, 1, 1 + 4, 16, 32, 2, 1, 10};
        int[] last = {4, 5, 5, 0, 8, 0, 58, 3, 2, 2};
        for (int what = 0; what < 10; what++) {
            due("14 of 3, " + what, board.of(3, what), third[what]);
            due("14 of 4, " + what, board.of(4, what), last[what]);
        }
        due("14 a turn in place 0", boardOf(-5, 6).of(1, 8), 1);
        due("14 first begins", board.of(0, 6), 0);
        due("14 a turn is in its act", board.of(1, 8), 0);
        due("14 last beat of a page", board.of(1, 7), 0);
        due("14 first beat of a page", board.of(2, 7), 1);
        due("14 needed", board.of(0, 5), 8);
        due("14 none", board.of(5, 0), NO_SUCH);
        due("14 none first", board.of(-1, 10), NO_SUCH);
        due("14 no such number", board.of(0, 10), BAD_VALUE);
        due("14 no such number", board.of(0, -1), BAD_VALUE);
        board.set(BeatSlugs.PAGE, 60);
        due("14 longer pages", board.of(4, 7), 0);
        board.set(BeatSlugs.PAGE, 58);
        due("14 just on the next page", board.of(4, 7), 1);
    }

    private static void at() {
        BeatSlugs board = boardOf(1, 2, 3);
        board.move(2, 0);
        row("15", board, 2, 0, 1);
        due("15 no place", board.at(-1), NO_SUCH);
        due("15 no place", board.at(FAR), NO_SUCH);
        due("15 no place", board.at(BELOW), NO_SUCH);
        due("15 empty", new BeatSlugs().at(0), NO_SUCH);
    }

    private static void atBeat() {
        BeatSlugs board = boardOf(10, 1, 20);
        board.trim(2, 5);
        int[][] runs = {{0, 0}, {9, 0}, {10, 1}, {11, 2}, {25, 2}, {26, NONE}, {FAR, NONE}, {-1, BAD_VALUE}, {BELOW, BAD_VALUE}};
        for (int[] run : runs) {
            due("16 at beat " + run[0], board.atBeat(run[0]), run[1]);
        }
        due("16 empty", new BeatSlugs().atBeat(0), NONE);
    }

    private static void ofAct() {
        BeatSlugs board = boardOf(20, -42, 30, 27, -1, 9);
        board.target(1, 61);
        board.trim(2, 3);
        int[][] acts = {
            {62, 60, 5002, 1, 0, 2, 0, 31},
            {55, 61, 4994, 0, 0, 3, 62, 12 + 13},
            {9, 60, 4949, 0, 1, 1, 117, 4}};
        for (int act = 0; act < acts.length; act++) {
            for (int what = 0; what < 8; what++) {
                due("17 of act " + act + ", " + what, board.ofAct(act, what), acts[act][what]);
            }
        }
        due("17 none", board.ofAct(3, 0), NO_SUCH);
        due("17 none", board.ofAct(-1, 0), NO_SUCH);
        due("17 none", board.ofAct(FAR, 0), NO_SUCH);
        due("17 none first", board.ofAct(3, 8), NO_SUCH);
        due("17 no such number", board.ofAct(0, 8), BAD_VALUE);
        due("17 no such number", board.ofAct(0, -1), BAD_VALUE);
        board.target(2, 9);
        due("17 an open one does not fit", board.ofAct(2, 3), 0);
        due("17 closed", board.turn(5), 1);
        due("17 fits", board.ofAct(2, 3), 1);
        board.set(BeatSlugs.SLACK, 6);
        due("17 below by the slack", board.ofAct(1, 3), 1);
        board.set(BeatSlugs.SLACK, 5);
        due("17 below by more", board.ofAct(1, 3), 0);
    }

    private static void count() {
        BeatSlugs board = boardOf(20, -42, 30, -30, 9);
        int[] counts = {31, 3, 131, 9, 2 + 0 + 51, 2, 1, 16, 2, 50, 0, 5};
        for (int what = 0; what < counts.length; what++) {
            due("18 count " + what, board.count(what), counts[what]);
        }
        due("18 no such number", board.count(12), BAD_VALUE);
        due("18 no such number", board.count(-1), BAD_VALUE);
        board.trim(1, 12);
        due("18 the first of the longest", board.count(6), 1);
        board.move(3, 0);
        due("18 the first in the row", board.count(6), 3);
        board.drop(4);
        due("18 an open act, too", board.count(1), 3);
        board.drop(2);
        due("18 no open act", board.count(1), 2);
        board.put(packed("s1"));
        due("18 pad", board.count(10), 2);
        due("18 undo", board.count(11), 6);
        due("18 the longest of one beat", boardOf(1, 1).count(6), 0);
        BeatSlugs page = boardOf(16);
        due("18 one page", page.count(3), 1);
        page.slug(1, 1, 0);
        due("18 a page begins", page.count(3), 2);
    }

    private static void places() {
        BeatSlugs board = boardOf(1, 2, 3, 4, 5);
        due("19 none", board.places(5), NO_SUCH);
        due("19 none", board.places(-1), NO_SUCH);
        due("19 all", board.places(2), 31);
        board.need(2, 1);
        board.need(4, 2);
        due("19 behind one", board.places(4), 8 + 16);
        due("19 between two", board.places(2), 4 + 8);
        due("19 ahead of one", board.places(1), 1 + 2);
        due("19 others", board.places(0), 31);
        due("19 others", board.places(3), 31);
        due("19 the only one", boardOf(1).places(0), 1);
        due("19 nothing changes", board.count(11), 6);
        row("19", board, 0, 1, 2, 3, 4);
    }

    private static void bestSwap() {
        // the slugs 1 to 6 are in the places 0 to 5: acts of 70 and 50 beats
        BeatSlugs board = boardOf(5, 30, 20, -20, 20, 20, -10);
        board.drop(0);
        due("20 below", board.bestSwap(-1), BAD_VALUE);
        due("20 above", board.bestSwap(3), BAD_VALUE);
        due("20 off now", board.count(4), 20);
        best("20 of three the lowest places", board, 1, 4, 0);
        board.need(4, 2);
        best("20 then the next higher place", board, 1, 5, 0);
        board.need(5, 1);
        best("20 then the next lower place", board, 3, 6, 0);
        due("20 nothing changes", board.count(4), 20);
        row("20 nothing changes", board, 1, 2, 3, 4, 5, 6);
        due("20 nothing is recorded", board.count(11), 6);
        board.need(6, 3);
        best("20 none that can be done", board, NONE, NONE, NONE);
        due("20 an error first", board.bestSwap(3), BAD_VALUE);
        best("20 none helps", boardOf(40, -30, 20, 20, -10), NONE, NONE, NONE);
        best("20 an open act", boardOf(30, -50, 40), 0, 1, 10 + 10);
        best("20 empty", new BeatSlugs(), NONE, NONE, NONE);
    }

    private static void best(String what, BeatSlugs board, int lower, int higher, int off) {
        due(what + ": lower", board.bestSwap(0), lower);
        due(what + ": higher", board.bestSwap(1), higher);
        due(what + ": off", board.bestSwap(2), off);
    }

    private static void ifFitted() {
        BeatSlugs board = boardOf(20, 30, -40, 99);
        due("21 none", board.ifFitted(2), NO_SUCH);
        due("21 none", board.ifFitted(-1), NO_SUCH);
        due("21 how many", board.ifFitted(0), 30);
        due("21 open", board.ifFitted(1), 39);
        due("21 nothing changes", board.count(2), 189);
        due("21 nothing is recorded", board.count(11), 4);
        board.target(0, 43);
        due("21 within the slack", board.ifFitted(0), 45);
        board.target(0, 42);
        due("21 not possible", board.ifFitted(0), NOT_POSSIBLE);
        board.target(0, 90);
        due("21 not above", board.ifFitted(0), 0);
    }

    private static void ifTurned() {
        BeatSlugs board = boardOf(20, 30, -40, 50);
        board.target(1, 50);
        board.target(2, 10);
        due("22 none", board.ifTurned(4), NO_SUCH);
        due("22 none", board.ifTurned(-1), NO_SUCH);
        due("22 now", board.count(4), 30);
        due("22 a turn more", board.ifTurned(0), 40 + 20 + 40);
        due("22 a turn more", board.ifTurned(1), 10 + 10 + 40);
        due("22 a turn less", board.ifTurned(2), 80);
        due("22 the last one", board.ifTurned(3), 30);
        due("22 nothing changes", board.count(4), 30);
        due("22 as it is said", board.turn(1) + board.count(4), 1 + 60);
    }

    private static void needs() {
        BeatSlugs board = boardOf(1, 2, 3, 4, 5);
        board.need(1, 0);
        board.need(3, 1);
        board.need(3, 2);
        board.need(4, 2);
        due("23 none", board.needs(5), NO_SUCH);
        due("23 none", board.needs(-1), NO_SUCH);
        due("23 nothing", board.needs(0), 0);
        due("23 one", board.needs(1), 1);
        due("23 and so on", board.needs(3), 1 + 2 + 4);
        due("23 its own ones only", board.needs(4), 4);
        board.need(4, 3);
        due("23 and so on", board.needs(4), 15);
    }

    private static void put() {
        BeatSlugs board = new BeatSlugs();
        due("24 none", board.put(0L), BAD_VALUE);
        due("24 a space", board.put(32L), BAD_VALUE);
        due("24 above 126", board.put(127L), BAD_VALUE);
        due("24 above 8 bits that are 0", board.put(0x410041L), BAD_VALUE);
        due("24 the last one is none", board.put(0x4100L), BAD_VALUE);
        due("24 the highest bits", board.put(0x8000000000000041L), BAD_VALUE);
        due("24 a bad one first", board.put(0x2041L), BAD_VALUE);
        due("24 a bad one of eight", board.put(0x8041414141414141L), BAD_VALUE);
        due("24 least", board.put(33L), 1);
        due("24 most", board.put(126L), 2);
        due("24 eight", board.put(packed("abcdefgh")), 10);
        due("24 nothing is recorded", board.count(11), 0);
        for (int length = 18; length < 80; length += 8) {
            due("24 eight more", board.put(packed("12345678")), length);
        }
        due("24 longer than 80", board.put(packed("1234567")), TOO_MANY);
        due("24 bad first", board.put(packed("123456 ")), BAD_VALUE);
        due("24 just 80", board.put(packed("123456")), 80);
        due("24 full", board.put(packed("1")), TOO_MANY);
        due("24 full", board.count(10), 80);
    }

    private static void wipe() {
        BeatSlugs board = new BeatSlugs();
        due("25 empty", board.wipe(), 0);
        board.put(packed("s10;xyz"));
        due("25 what there was", board.wipe(), 7);
        due("25 empty", board.count(10), 0);
        due("25 empty", board.fault(), 0);
        board.put(packed("s5"));
        due("25 written anew", board.fault(), NONE);
        due("25 nothing is recorded", board.count(11), 0);
    }

    private static void fault() {
        String[] good = {"s0", "s9!", "s99!", "n0>99", "m10@0", "x7~8", "t1-98", "f0", "f9;s5!;n1>0;f3", "s1;s2;s3"};
        for (String text : good) {
            BeatSlugs board = new BeatSlugs();
            write(board, text);
            due("26 " + text, board.fault(), NONE);
            due("26 nothing changes", board.fault(), NONE);
        }
        Object[][] bad = {
            {"", 0}, {"a", 0}, {"S5", 0}, {";", 0}, {"5", 0}, {"s", 1}, {"s!", 1}, {"s00", 2}, {"s05", 2}, {"s100", 3},
            {"s5!!", 3}, {"s5;", 3}, {"s5;;", 3}, {"s5!;", 4}, {"n1", 2}, {"n1>", 3}, {"n>1", 1}, {"n1@2", 2},
            {"m1@", 3}, {"m1>2", 2}, {"x1~2~3", 4}, {"x1-2", 2}, {"t1-2!", 4}, {"t1~2", 2}, {"t-1", 1}, {"n12>100", 6},
            {"n123>1", 3}, {"n1>05", 4}, {"f", 1}, {"f10", 2}, {"f1!", 2}, {"fa", 1}, {"f1;f", 4}, {"s1;s2;q", 6}, {"s1s2", 2}};
        for (Object[] row : bad) {
            BeatSlugs board = new BeatSlugs();
            write(board, (String) row[0]);
            due("26 " + row[0], board.fault(), (Integer) row[1]);
        }
        BeatSlugs full = new BeatSlugs();
        write(full, "f1;".repeat(26) + "f1");
        due("26 80 characters", full.fault(), NONE);
        write(full, "f1;".repeat(25) + "s10!;");
        due("26 80 characters and no end", full.fault(), 80);
    }

    private static void carryOut() {
        BeatSlugs board = new BeatSlugs();
        due("27 empty", board.carryOut(), BAD_TEXT);
        write(board, "s20;");
        due("27 a fault", board.carryOut(), BAD_TEXT);
        due("27 it stays", board.count(10), 4);
        due("27 nothing is recorded", board.count(11), 0);
        write(board, "s20;s30;s70!;n2>0;m1@0;x1~0;t1-15;f0");
        due("27 all", board.carryOut(), 8);
        due("27 emptied", board.count(10), 0);
        due("27 one change", board.count(11), 1);
        row("27", board, 0, 1, 2);
        due("27 slug", board.of(0, 1), 20);
        due("27 plain", board.of(1, 3), 0);
        due("27 turn", board.of(2, 3), 1);
        due("27 need", board.of(2, 4), 1);
        due("27 trim", board.of(1, 2), 15);
        due("27 fit: the last one first", board.of(2, 2), 35);
        due("27 fit: then the ones ahead", board.of(0, 2), 10);
        due("27 fit: the act", board.ofAct(0, 0), 60);
        write(board, "t1-1;s7;n0>2;s8");
        due("27 not possible", board.carryOut(), 0);
        due("27 emptied", board.count(10), 0);
        due("27 one change", board.count(11), 2);
        write(board, "s7;n0>2;s8");
        due("27 up to the first error", board.carryOut(), 1);
        due("27 the first one stands", board.of(3, 1), 7);
        due("27 the third one not", board.of(4, 1), NO_SUCH);
        due("27 one change", board.count(11), 3);
        write(board, "n2>0");
        due("27 need no more", board.carryOut(), 1);
        due("27 need no more", board.of(2, 4), 0);
        due("27 undo", board.undo(), 3);
        due("27 undo", board.undo(), 2);
        due("27 undo", board.of(3, 1), NO_SUCH);
        due("27 undo", board.undo(), 1);
        due("27 undo all", board.undo(), 0);
        due("27 undo all", board.count(0), 0);
        write(board, "s1;".repeat(26) + "f0");
        due("27 too many", board.carryOut(), 24);
        write(board, "t23-1");
        due("27 an error only", board.carryOut(), 0);
        due("27 a slug that comes", board.drop(23), 23);
        write(board, "s37!;t23-12;m23@11");
        due("27 two digits", board.carryOut(), 3);
        due("27 two digits", board.of(23, 1), 37);
        due("27 two digits", board.of(23, 2), 25);
        due("27 two digits", board.of(23, 0), 11);
    }

    private static void undo() {
        BeatSlugs board = new BeatSlugs();
        due("28 none", board.undo(), NOT_POSSIBLE);
        for (int slug = 0; slug < 8; slug++) {
            board.slug(slug, slug + 1, 0);
        }
        board.put(packed("s1"));
        board.save(0);
        due("28 six", board.count(11), 6);
        due("28 errors record nothing", board.slug(99, 1, 0), NO_SUCH);
        due("28 errors record nothing", board.undo(), 5);
        due("28 the latest one", board.count(0), 127);
        for (int left = 4; left >= 0; left--) {
            due("28 one more", board.undo(), left);
        }
        due("28 the oldest one", board.count(0), 3);
        due("28 no more", board.undo(), NOT_POSSIBLE);
        due("28 not the pad", board.count(10), 2);
        due("28 not the slots", board.restore(0), 8);
        due("28 after all", board.undo(), 0);
        due("28 after all", board.count(0), 3);

        BeatSlugs all = boardOf(10, 20, -30);
        all.need(2, 0);
        all.trim(1, 3);
        all.save(1);
        all.set(BeatSlugs.PAGE, 5);
        all.target(0, 5);
        all.drop(0);
        all.turn(2);
        all.restoreTail(1);
        all.swap(1, 2);
        for (int left = 5; left >= 0; left--) {
            due("28 everything", all.undo(), left);
        }
        due("28 page", all.count(7), 16);
        due("28 target", all.ofAct(0, 1), 60);
        due("28 slugs", all.count(0), 7);
        due("28 turn", all.of(2, 3), 1);
        due("28 needs", all.of(2, 4), 1);
        due("28 trimmed", all.of(1, 2), 17);
        row("28", all, 0, 1, 2);
        due("28 also if nothing is different", all.move(0, 0), 0);
        due("28 also if nothing is different", all.count(11), 1);
        due("28 an error between", all.turn(9), NO_SUCH);
        due("28 an error between", all.undo(), 0);
    }

    private static void save() {
        BeatSlugs board = boardOf(10, -20);
        due("29 no slot", board.save(2), BAD_VALUE);
        due("29 no slot", board.save(-1), BAD_VALUE);
        due("29 how many", board.save(0), 2);
        due("29 nothing is recorded", board.count(11), 2);
        board.slug(2, 5, 0);
        due("29 how many", board.save(1), 3);
        board.drop(1);
        due("29 slot 0", board.restore(0), 2);
        due("29 slot 1", board.restore(1), 3);
        board.drop(0);
        due("29 overwritten", board.save(1), 2);
        board.drop(1);
        due("29 slot 1", board.restore(1), 2);
        row("29", board, 1, 2);
    }

    private static void restore() {
        BeatSlugs board = boardOf(10, -20, 30);
        board.need(2, 1);
        board.trim(0, 5);
        board.set(BeatSlugs.SLACK, 7);
        board.target(1, 33);
        due("30 no slot", board.restore(2), BAD_VALUE);
        due("30 no slot", board.restore(-1), BAD_VALUE);
        due("30 nothing saved", board.restore(1), NOT_POSSIBLE);
        board.save(1);
        board.put(packed("f0"));
        board.set(BeatSlugs.SLACK, 0);
        board.target(1, 1);
        board.need(2, 1);
        board.restoreTail(0);
        board.swap(0, 2);
        board.turn(1);
        due("30 how many", board.restore(1), 3);
        due("30 recorded", board.count(11), 6);
        row("30", board, 0, 1, 2);
        due("30 slack", board.count(8), 7);
        due("30 target", board.ofAct(1, 1), 33);
        due("30 needs", board.of(2, 4), 2);
        due("30 trimmed", board.of(0, 2), 5);
        due("30 turn", board.of(1, 3), 1);
        due("30 pad stays", board.count(10), 2);
        due("30 undone", board.undo(), 5);
        row("30 undone", board, 2, 1, 0);
        due("30 slot 0 is empty", board.restore(0), NOT_POSSIBLE);
        board.drop(2);
        due("30 the slot keeps it", board.restore(1), 3);
        due("30 the slot keeps it", board.of(0, 2), 5);
        board.trim(2, 1);
        due("30 the slot keeps it", board.restore(1), 3);
        due("30 the slot keeps it", board.of(2, 2), 30);
    }

    public static void main(String[] args) {
        newObject();
        set();
        target();
        slug();
        drop();
        turn();
        need();
        trim();
        restoreTail();
        move();
        swap();
        split();
        fit();
        of();
        at();
        atBeat();
        ofAct();
        count();
        places();
        bestSwap();
        ifFitted();
        ifTurned();
        needs();
        put();
        wipe();
        fault();
        carryOut();
        undo();
        save();
        restore();
        end("promises");
    }
}
