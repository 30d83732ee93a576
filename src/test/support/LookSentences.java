/** The promises 14 to 23: what there is, and what if. */
final class LookSentences extends Sentences {
    private static final int FULL_SET = (1 << MOST_SLUGS) - 1;

    static void run() {
        of();
        at();
        atBeat();
        ofAct();
        count();
        longest();
        places();
        bestSwap();
        bestSwapErrors();
        ifFitted();
        ifTurned();
        needs();
    }

    private static void of() {
        sentence("Promise 14", "Returns something about a slug");
        BeatSlugs one = boardOf(9);
        int[] ofOne = {0, 9, 9, 0, 0, 0, 0, 0, 0, 4};
        for (int what = 0; what < 10; what++) {
            is("of(0, " + what + ") of a board of one", one.of(0, what), ofOne[what]);
        }
        sentencesOfEachNumber();

        sentence("Promise 14", "Returns the number");
        BeatSlugs full = boardOfAlike(24, -99);
        int[] ofLast = {23, 99, 99, 1, 0, 0, 23 * 99, 23 * 99 / 16, 23, 49};
        for (int what = 0; what < 10; what++) {
            is("of(23, " + what + ") of a full board", full.of(23, what), ofLast[what]);
        }

        sentence("Promise 14", "NO_SUCH if there is no such slug");
        BeatSlugs three = boardOf(1, 2, 3);
        for (int none : NO_SLUGS) {
            all(NO_SUCH, three.of(none, 0), three.of(none, 4), three.of(none, 7), three.of(none, 9), three.of(none, 10));
        }

        sentence("Promise 14", "BAD_VALUE if what is out of range");
        all(BAD_VALUE, three.of(0, -1), three.of(0, 10), three.of(2, 11), three.of(0, FAR), three.of(0, BELOW));
    }

    private static void sentencesOfEachNumber() {
        BeatSlugs board = boardOf(10, -6, 16, -32, 5);
        board.need(3, 0);
        board.need(3, 2);
        board.need(4, 3);
        board.trim(3, 6);
        board.move(1, 0);
        // the row is 1, 0, 2, 3, 4
        number(board, "0 its place", 0, 1, 0, 2, 3, 4);
        number(board, "1 its beats as written", 1, 10, 6, 16, 32, 5);
        number(board, "2 as trimmed", 2, 10, 6, 16, 26, 5);
        number(board, "3 whether it is a turn (1 or 0)", 3, 0, 1, 0, 1, 0);
        number(board, "4 slugs that it needs", 4, 0, 0, 0, 5, 8);
        number(board, "5 slugs that need it, as sets", 5, 8, 0, 8, 16, 0);
        number(board, "6 at which beat it begins", 6, 6, 0, 16, 32, 58);
        number(board, "7 on which page, from 0 on (that beat divided by PAGE)", 7, 0, 0, 1, 2, 3);
        number(board, "8 its act", 8, 1, 0, 1, 1, 2);
        number(board, "9 by how many beats it can be trimmed yet", 9, 5, 3, 8, 10, 2);
    }

    private static void number(BeatSlugs board, String words, int what, int... want) {
        sentence("Promise 14", words);
        for (int slug = 0; slug < want.length; slug++) {
            is("of(" + slug + ", " + what + ")", board.of(slug, what), want[slug]);
        }
    }

    private static void at() {
        sentence("Promise 15", "Returns the slug in a place");
        BeatSlugs board = boardOf(1, 2, 3);
        board.move(2, 0);
        inRow("moved", board, 2, 0, 1);

        sentence("Promise 15", "Returns the slug");
        BeatSlugs full = boardOfAlike(24, 5);
        full.move(23, 0);
        is("the first one", full.at(0), 23);
        is("the last one", full.at(23), 22);

        sentence("Promise 15", "NO_SUCH if there is no such place");
        all(NO_SUCH, board.at(3), board.at(-1), board.at(23), board.at(24), board.at(FAR), board.at(BELOW), full.at(24),
            new BeatSlugs().at(0));
        full.drop(22);
        is("a place that there was", full.at(23), NO_SUCH);
    }

    private static void atBeat() {
        sentence("Promise 16", "Returns the slug that runs at a beat");
        BeatSlugs board = boardOf(10, 1, 20);
        board.trim(2, 5);
        board.move(2, 0);
        for (int beat = 0; beat < 26; beat++) {
            is("atBeat(" + beat + ")", board.atBeat(beat), beat < 15 ? 2 : beat < 25 ? 0 : 1);
        }

        sentence("Promise 16", "`beat`: 0 or more");
        is("0", boardOf(1).atBeat(0), 0);

        sentence("Promise 16", "Returns the slug;");
        is("the last beat of all", boardOfAlike(24, 99).atBeat(24 * 99 - 1), 23);
        is("the first beat of the last one", boardOfAlike(24, 99).atBeat(23 * 99), 23);
        is("the beat ahead of it", boardOfAlike(24, 99).atBeat(23 * 99 - 1), 22);

        sentence("Promise 16", "BAD_VALUE if beat is below 0");
        all(BAD_VALUE, board.atBeat(-1), board.atBeat(BELOW), new BeatSlugs().atBeat(-1));

        sentence("Promise 16", "NONE if all are over by then");
        all(NONE, board.atBeat(26), board.atBeat(27), board.atBeat(FAR), new BeatSlugs().atBeat(0),
            boardOfAlike(24, 99).atBeat(24 * 99));
    }

    private static void ofAct() {
        sentence("Promise 17", "Returns something about an act");
        BeatSlugs board = boardOf(20, -42, 30, 27, -1, 9);
        board.target(1, 61);
        board.trim(2, 3);
        is("its slugs are those up to its turn", board.ofAct(0, 0) + board.ofAct(1, 0) + board.ofAct(2, 0), board.count(2));
        actNumber(board, "0 its beats", 0, 62, 55, 9);
        actNumber(board, "1 its target", 1, 60, 61, 60);
        actNumber(board, "2 by how much it is off, and 5000", 2, 5002, 4994, 4949);
        actNumber(board, "3 whether it fits (1 or 0)", 3, 1, 0, 0);
        actNumber(board, "4 whether it is open (1 or 0)", 4, 0, 0, 1);
        actNumber(board, "5 its slugs, how many", 5, 2, 3, 1);
        actNumber(board, "6 the beat at which it begins", 6, 0, 62, 117);
        actNumber(board, "7 the beats that can be trimmed of it yet", 7, 31, 25, 4);
        board.set(BeatSlugs.TRIM, 5);
        actNumber(board, "7 the beats that can be trimmed of it yet", 7, 3, 1, 0);

        sentence("Promise 17", "Returns the number");
        BeatSlugs all = boardOfAlike(24, 99);
        is("an act of all slugs", all.ofAct(0, 0), 24 * 99);
        is("an act of all slugs", all.ofAct(0, 5), 24);
        is("an act of all slugs", all.ofAct(0, 7), 24 * 49);
        is("an act of all slugs begins", all.ofAct(0, 6), 0);

        sentence("Promise 17", "NO_SUCH if there is no such act");
        for (int none : new int[] {-1, 3, 5, 6, 24, 32, FAR, BELOW}) {
            all(NO_SUCH, board.ofAct(none, 0), board.ofAct(none, 1), board.ofAct(none, 7), board.ofAct(none, 8));
        }
        is("no slugs", new BeatSlugs().ofAct(0, 1), NO_SUCH);
        is("none is open", boardOf(-5).ofAct(1, 1), NO_SUCH);

        sentence("Promise 17", "BAD_VALUE if what is out of range");
        all(BAD_VALUE, board.ofAct(0, 8), board.ofAct(2, -1), board.ofAct(0, 9), board.ofAct(0, FAR), board.ofAct(0, BELOW));
    }

    private static void actNumber(BeatSlugs board, String words, int what, int... want) {
        sentence("Promise 17", words);
        for (int act = 0; act < want.length; act++) {
            is("ofAct(" + act + ", " + what + ")", board.ofAct(act, what), want[act]);
        }
    }

    private static void count() {
        sentence("Promise 18", "Returns a number");
        BeatSlugs board = boardOf(20, -42, 30, -30, 9, 1);
        board.drop(5);
        board.put(packed("abcdefgh"));
        is("without a look at slugs or acts", board.count(0) - board.count(1), 28);
        counted(board, "0 slugs, as a set", 0, 31);
        counted(board, "1 acts, how many (an open one, too)", 1, 3);
        counted(board, "2 all beats", 2, 131);
        counted(board, "3 pages: all beats divided by PAGE, rounded up", 3, 9);
        counted(board, "4 how far all acts are off, without signs, together", 4, 2 + 51);
        counted(board, "5 acts that fit, how many", 5, 2);
        counted(board, "7 to 9 the settings", 7, 16);
        counted(board, "7 to 9 the settings", 8, 2);
        counted(board, "7 to 9 the settings", 9, 50);
        counted(board, "10 the length of the pad", 10, 8);
        counted(board, "11 how many changes can be undone", 11, 6);

        sentence("Promise 18", "rounded up");
        for (int beats = 1; beats <= 99; beats++) {
            is(beats + " beats", boardOf(beats).count(3), beats <= 16 ? 1 : (beats - 1) / 16 + 1);
        }
        is("no beats", new BeatSlugs().count(3), 0);

        sentence("Promise 18", "Returns the number");
        BeatSlugs full = boardOfAlike(24, -99);
        int[] most = {FULL_SET, 24, 24 * 99, 24 * 99 / 16 + 1, 24 * 39, 0, 0, 16, 2, 50, 0, 6};
        for (int what = 0; what < most.length; what++) {
            is("count(" + what + ") of a full board", full.count(what), most[what]);
        }

        sentence("Promise 18", "BAD_VALUE if what is out of range");
        all(BAD_VALUE, board.count(-1), board.count(12), board.count(13), board.count(FAR), board.count(BELOW),
            new BeatSlugs().count(12));
    }

    private static void counted(BeatSlugs board, String words, int what, int want) {
        sentence("Promise 18", words);
        is("count(" + what + ")", board.count(what), want);
    }

    private static void longest() {
        sentence("Promise 18", "6 the longest slug as trimmed, of several the first in the row (NONE)");
        is("no slugs", new BeatSlugs().count(6), NONE);
        is("of two of one beat", boardOf(1, 1).count(6), 0);
        BeatSlugs board = boardOf(20, 30, 30, 40);
        is("the last one", board.count(6), 3);
        board.trim(3, 10);
        is("as trimmed: of three the first", board.count(6), 1);
        board.move(3, 0);
        is("the first in the row", board.count(6), 3);
        board.trim(3, 1);
        is("the next one", board.count(6), 1);
        board.slug(4, 99, 0);
        is("the one at the end", board.count(6), 4);
        board.drop(4);
        is("it went from the end", board.count(6), 1);
        board.drop(1);
        is("another one went", board.count(6), 2);
    }

    private static void places() {
        sentence("Promise 19", "Returns the places to which a slug could be moved, its own too");
        BeatSlugs board = boardOf(1, 2, 3, 4, 5);
        board.need(2, 1);
        board.need(4, 2);
        int[] places = {31, 1 + 2, 4 + 8, 31, 8 + 16};
        for (int slug = 0; slug < 5; slug++) {
            is("places(" + slug + ")", board.places(slug), places[slug]);
        }
        board.swap(3, 4);
        board.need(3, 4);
        int[] fewer = {31, 1 + 2, 4, 16, 8};
        for (int slug = 0; slug < 5; slug++) {
            is("places(" + slug + "), more needs", board.places(slug), fewer[slug]);
        }

        sentence("Promise 19", "Returns the places, as a set");
        is("one slug", boardOf(5).places(0), 1);
        is("24 slugs", boardOfAlike(24, 5).places(11), FULL_SET);

        sentence("Promise 19", "NO_SUCH if there is no such slug");
        for (int none : NO_SLUGS) {
            is("places(" + none + ")", boardOf(1, 2, 3).places(none), NO_SUCH);
        }
    }

    private static void bestSwap() {
        // the slugs 1 to 6 are in the places 0 to 5: acts of 70 and 50 beats
        BeatSlugs board = boardOf(5, 30, 20, -20, 20, 20, -10);
        board.drop(0);
        sentence("Promise 20", "Finds the swap by which all acts are off the least, without signs, together");
        best("acts of 70 and 50 beats", board, 1, 4, 0);
        best("an open act, too", boardOf(30, -50, 40), 0, 1, 10 + 10);
        best("the least, not the first that helps", boardOf(30, -40, 25, 20, -5), 0, 3, 0);

        sentence("Promise 20", "if that is less than they are now");
        best("just as far", boardOf(40, -30, 20, 20, -10), NONE, NONE, NONE);
        best("all are the same", boardOf(30, -30, 30, -30), NONE, NONE, NONE);
        BeatSlugs edge = boardOf(45, -45);
        best("just as far", edge, NONE, NONE, NONE);
        edge.target(1, 59);
        best("less by one", edge, 0, 1, 15 + 14);

        sentence("Promise 20", "of several the one with the lowest lower place, then the lowest higher one");
        best("the lowest lower place, the lowest higher one", board, 1, 4, 0);
        board.need(4, 2);
        best("then the next higher place", board, 1, 5, 0);
        board.need(5, 1);
        best("then the next lower place", board, 3, 6, 0);
        board.need(6, 3);
        best("then none that can be done", board, NONE, NONE, NONE);
        BeatSlugs alike = boardOfAlike(24, 1);
        alike.turn(22);
        alike.turn(23);
        alike.target(0, 20);
        best("a turn of 24 goes as well to each of the places 0 to 19", alike, 0, 22, 56);

        sentence("Promise 20", "`what`: 0 the slug in the lower place, 1 the one in the higher place, 2 how far acts are off then");
        BeatSlugs back = boardOf(30, -50, 40);
        back.swap(0, 2);
        best("slugs that are not in the places of their numbers", back, 2, 1, 10 + 10);
        is("the swap is not done", back.count(4), 30 + 30);
    }

    private static void best(String what, BeatSlugs board, int lower, int higher, int off) {
        is(what + ": lower", board.bestSwap(0), lower);
        is(what + ": higher", board.bestSwap(1), higher);
        is(what + ": off", board.bestSwap(2), off);
    }

    private static void bestSwapErrors() {
        sentence("Promise 20", "Returns the number");
        is("none is off then", boardOf(30, -40, 25, 20, -5).bestSwap(2), 0);
        is("in the place 0", boardOf(30, -40, 25, 20, -5).bestSwap(0), 0);

        sentence("Promise 20", "BAD_VALUE if what is out of range");
        BeatSlugs helps = boardOf(30, -40, 25, 20, -5);
        all(BAD_VALUE, helps.bestSwap(-1), helps.bestSwap(3), helps.bestSwap(FAR), helps.bestSwap(BELOW),
            new BeatSlugs().bestSwap(3), new BeatSlugs().bestSwap(-1));

        sentence("Promise 20", "NONE if none helps");
        best("no slugs", new BeatSlugs(), NONE, NONE, NONE);
        best("one slug", boardOf(-5), NONE, NONE, NONE);
        best("24 alike", boardOfAlike(24, 5), NONE, NONE, NONE);
        BeatSlugs needs = boardOf(30, -50, 40);
        needs.need(1, 0);
        needs.need(2, 0);
        best("the one that helps cannot be done", needs, NONE, NONE, NONE);
    }

    private static void ifFitted() {
        sentence("Promise 21", "Tells how many beats fit() would trim");
        BeatSlugs board = boardOf(20, 30, -40, 99);
        int closed = board.ifFitted(0);
        int open = board.ifFitted(1);
        is("closed", closed, 30);
        is("open", open, 39);
        is("as fit() does", board.fit(0), closed);
        is("as fit() does", board.fit(1), open);

        sentence("Promise 21", "Returns how many");
        is("fitted by trimming nothing", board.ifFitted(0), 0);
        board.restoreTail(2);
        board.target(0, 999);
        is("below its target", board.ifFitted(0), 0);

        sentence("Promise 21", "errors as for fit()");
        all(NO_SUCH, board.ifFitted(2), board.ifFitted(-1), board.ifFitted(FAR), board.ifFitted(BELOW),
            new BeatSlugs().ifFitted(0));
        BeatSlugs hard = boardOf(-99);
        hard.target(0, 48);
        is("just with the slack", hard.ifFitted(0), 49);
        hard.target(0, 47);
        is("not with the slack", hard.ifFitted(0), NOT_POSSIBLE);
    }

    private static void ifTurned() {
        sentence("Promise 22", "Tells how far all acts would be off, without signs, together, if a slug was a turn, or was none, if it is one");
        BeatSlugs board = boardOf(20, 30, -40, 50);
        board.target(1, 50);
        board.target(2, 10);
        int[] off = {40 + 20 + 40, 10 + 10 + 40, 80, 30};
        for (int slug = 0; slug < 4; slug++) {
            is("ifTurned(" + slug + ")", board.ifTurned(slug), off[slug]);
            board.turn(slug);
            is("as it is then", board.count(4), off[slug]);
            is("and back", board.ifTurned(slug), 30);
            board.turn(slug);
        }

        sentence("Promise 22", "Returns how far");
        is("just on its target", boardOf(60).ifTurned(0), 0);
        is("an act more", boardOf(60, -60).ifTurned(0), 0);
        is("an act less", boardOf(-60, -60).ifTurned(0), 60);
        BeatSlugs most = boardOfAlike(24, -99);
        is("24 acts less one", most.ifTurned(23), 24 * 39);
        is("24 acts less one", most.ifTurned(0), 22 * 39 + 138);

        sentence("Promise 22", "NO_SUCH if there is no such slug");
        for (int none : NO_SLUGS) {
            is("ifTurned(" + none + ")", boardOf(1, 2, 3).ifTurned(none), NO_SUCH);
        }
    }

    private static void needs() {
        sentence("Promise 23", "Returns all slugs that a slug needs, and those that these need, and so on");
        BeatSlugs chain = boardOfAlike(24, 5);
        for (int slug = 1; slug < 24; slug++) {
            chain.need(slug, slug - 1);
        }
        for (int slug = 0; slug < 24; slug++) {
            is("a chain of 24, needs(" + slug + ")", chain.needs(slug), (1 << slug) - 1);
        }
        chain.need(12, 11);
        is("a chain that is cut", chain.needs(23), FULL_SET >> 1 & ~((1 << 12) - 1));
        BeatSlugs board = boardOf(1, 2, 3, 4, 5);
        for (int place = 0; place < 5; place++) {
            board.move(place, 0);
        }
        board.need(0, 3);
        board.need(0, 2);
        board.need(2, 4);
        is("lower ones that need higher ones", board.needs(0), 4 + 8 + 16);

        sentence("Promise 23", "Returns the slugs, as a set");
        is("none", board.needs(1), 0);
        is("one", board.needs(2), 16);

        sentence("Promise 23", "NO_SUCH if there is no such slug");
        for (int none : NO_SLUGS) {
            is("needs(" + none + ")", boardOf(1, 2, 3).needs(none), NO_SUCH);
        }
    }
}
