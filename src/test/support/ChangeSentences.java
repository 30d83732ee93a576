/** The promises 1 to 13: a new object, and the changes. */
final class ChangeSentences extends Sentences {
    static void run() {
        newObject();
        set();
        target();
        slug();
        drop();
        turn();
        need();
        needErrors();
        trim();
        restoreTail();
        move();
        swap();
        split();
        fit();
    }

    private static void newObject() {
        sentence("Promise 1", "Creates a board without slugs");
        BeatSlugs board = new BeatSlugs();
        int[] counts = {0, 0, 0, 0, 0, 0, NONE, 16, 2, 50, 0, 0};
        for (int what = 0; what < counts.length; what++) {
            is("count(" + what + ")", board.count(what), counts[what]);
        }
        all(NO_SUCH, board.of(0, 0), board.at(0), board.ofAct(0, 0), board.places(0), board.ifFitted(0), board.ifTurned(0),
            board.needs(0), board.drop(0), board.turn(0), board.move(0, 0), board.split(0, 1), board.fit(0));
        all(NOT_POSSIBLE, board.undo(), board.restore(0), board.restore(1));
        is("two objects are two boards", boardOf(5, 6).count(1) + new BeatSlugs().count(1), 1);
    }

    private static void set() {
        sentence("Promise 2", "Changes a setting (slugs that are trimmed stay so)");
        BeatSlugs board = boardOf(99, 20, -10);
        board.trim(0, 49);
        board.trim(1, 7);
        for (int trim : new int[] {0, 49, 90, 35, 34}) {
            board.set(BeatSlugs.TRIM, trim);
            is("slug 0, TRIM " + trim, board.of(0, 2), 50);
            is("slug 0, as written", board.of(0, 1), 99);
            is("slug 0, yet", board.of(0, 9), trim == 90 ? 40 : 0);
            is("slug 1, TRIM " + trim, board.of(1, 2), 13);
            is("slug 1, yet", board.of(1, 9), Math.max(0, 20 * trim / 100 - 7));
            is("slug 1, one more", board.trim(1, Math.max(0, 20 * trim / 100 - 7) + 1), NOT_POSSIBLE);
        }

        sentence("Promise 2", "Returns the previous value");
        BeatSlugs fresh = new BeatSlugs();
        is("PAGE", fresh.set(0, 60), 16);
        is("SLACK", fresh.set(1, 0), 2);
        is("TRIM", fresh.set(2, 0), 50);
        is("PAGE", fresh.set(0, 60), 60);
        is("SLACK", fresh.set(1, 20), 0);
        is("TRIM", fresh.set(2, 90), 0);

        sentence("Promise 2", "BAD_VALUE if there is no such setting, or the value is out of its range");
        for (int setting : new int[] {-1, 3, 4, -2, FAR, BELOW}) {
            all(BAD_VALUE, board.set(setting, 16), board.set(setting, 0), board.set(setting, 4), board.set(setting, -1));
        }
        all(BAD_VALUE, board.set(0, 3), board.set(0, 61), board.set(0, 0), board.set(1, -1), board.set(1, 21),
            board.set(2, -1), board.set(2, 91), board.set(2, 100));
    }

    private static void target() {
        sentence("Promise 3", "Changes the target of an act");
        BeatSlugs board = boardOfAlike(8, -50);
        board.target(2, 45);
        for (int act = 0; act < 8; act++) {
            is("target of the act " + act, board.ofAct(act, 1), act == 2 ? 45 : 60);
        }

        sentence("Promise 3", "`act`: 0 to 5");
        BeatSlugs empty = new BeatSlugs();
        for (int act = 0; act <= 5; act++) {
            is("of an act that is not there yet", empty.target(act, 40 + act), 60);
        }
        empty.slug(0, 5, 0);
        is("it stays until the act is there", empty.ofAct(0, 1), 40);

        sentence("Promise 3", "`beats`: 1 to 999");
        is("the least ones", board.target(0, 1), 60);
        is("the most", board.target(0, 999), 1);
        is("the most", board.ofAct(0, 1), 999);

        sentence("Promise 3", "Returns the previous one");
        is("the same again", board.target(5, 60), 60);
        is("another one", board.target(5, 61), 60);
        is("back", board.target(5, 60), 61);

        sentence("Promise 3", "NO_SUCH if there is no such act");
        all(NO_SUCH, board.target(6, 60), board.target(-1, 60), board.target(7, 60), board.target(FAR, 60),
            board.target(BELOW, 60));

        sentence("Promise 3", "BAD_VALUE if beats is out of range");
        all(BAD_VALUE, board.target(0, 0), board.target(5, 1000), board.target(5, -1), board.target(0, FAR),
            board.target(0, BELOW));
    }

    private static void slug() {
        sentence("Promise 4", "A slug comes");
        BeatSlugs board = boardOf(10, 20);
        board.slug(1, 30, 1);
        inRow("between", board, 0, 2, 1);
        is("written", board.of(2, 1), 30);
        is("a turn", board.of(2, 3), 1);
        is("needs none", board.of(2, 4) + board.of(2, 5), 0);

        sentence("Promise 4", "`place`: 0 to how many slugs there are");
        BeatSlugs growing = new BeatSlugs();
        for (int size = 0; size < 24; size++) {
            all(NO_SUCH, growing.slug(size + 1, 5, 0), growing.slug(-1, 5, 0));
            is("behind all of " + size, growing.slug(size, 5, 0), size);
            is("its place", growing.of(size, 0), size);
        }
        for (int place = 0; place < 24; place++) {
            BeatSlugs other = boardOfAlike(23, 5);
            is("in the place " + place, other.slug(place, 5, 0), 23);
            is("in the place " + place, other.at(place), 23);
            is("the last one", other.at(23), place == 23 ? 23 : 22);
        }

        sentence("Promise 4", "`beats`: 1 to 99");
        is("1", new BeatSlugs().slug(0, 1, 0), 0);
        is("99", new BeatSlugs().slug(0, 99, 1), 0);

        sentence("Promise 4", "`turn`: 1 if it is a turn, otherwise 0");
        is("0", boardOf(5).of(0, 3), 0);
        is("1", boardOf(-5).of(0, 3), 1);

        sentence("Promise 4", "Returns its number");
        BeatSlugs gaps = boardOf(1, 2, 3, 4);
        gaps.drop(2);
        gaps.drop(1);
        is("the lower free one", gaps.slug(2, 5, 0), 1);
        is("the next free one", gaps.slug(0, 5, 0), 2);
        is("no gaps", gaps.slug(0, 5, 0), 4);

        sentence("Promise 4", "NO_SUCH if there is no such place");
        all(NO_SUCH, board.slug(4, 5, 0), board.slug(-1, 5, 0), board.slug(24, 5, 0), board.slug(FAR, 5, 0),
            board.slug(BELOW, 5, 0), new BeatSlugs().slug(1, 5, 0), boardOfAlike(24, 5).slug(25, 5, 0));

        sentence("Promise 4", "BAD_VALUE if beats or turn is out of range");
        all(BAD_VALUE, board.slug(0, 0, 0), board.slug(0, 100, 0), board.slug(0, -1, 1), board.slug(0, FAR, 0),
            board.slug(0, BELOW, 0), board.slug(0, 5, 2), board.slug(0, 5, -1), board.slug(0, 5, FAR), board.slug(0, 5, BELOW));

        sentence("Promise 4", "TOO_MANY if there are 24 slugs");
        BeatSlugs full = boardOfAlike(24, 5);
        all(TOO_MANY, full.slug(0, 1, 0), full.slug(24, 99, 1));
        full.drop(23);
        is("23 slugs", full.slug(0, 1, 0), 23);
        is("24 slugs", full.slug(0, 1, 0), TOO_MANY);
    }

    private static void drop() {
        sentence("Promise 5", "A slug goes");
        BeatSlugs board = boardOf(10, -20, 30, 40);
        board.drop(0);
        inRow("the first one went", board, 1, 2, 3);
        board.drop(3);
        inRow("the last one went", board, 1, 2);
        is("the turn goes", board.drop(1), 1);
        is("its act, too", board.count(1), 1);
        is("the only one goes", board.drop(2), 0);
        is("no slug is left", board.count(0), 0);

        sentence("Promise 5", "nothing needs it any more");
        BeatSlugs all = boardOfAlike(24, 5);
        for (int slug = 1; slug < 24; slug++) {
            all.need(slug, 0);
        }
        all.drop(0);
        for (int slug = 1; slug < 24; slug++) {
            is("what " + slug + " needs", all.of(slug, 4), 0);
        }
        all.slug(0, 5, 0);
        is("nothing needs the one that comes for it", all.of(0, 5), 0);
        is("others can go ahead of it", all.move(23, 0), 23);
        BeatSlugs needing = boardOf(5, 6, 7);
        needing.need(2, 1);
        needing.drop(2);
        is("it needs nothing any more", needing.of(1, 5), 0);
        needing.slug(0, 5, 0);
        is("the one that comes for it needs nothing", needing.of(2, 4), 0);
        for (int slug = 0; slug < 24; slug++) {
            BeatSlugs last = boardOfAlike(24, 5);
            last.move(slug, 23);
            last.need(slug, slug == 9 ? 8 : 9);
            last.drop(slug == 9 ? 8 : 9);
            is("the last one, " + slug + ", does not", last.of(slug, 4) + last.needs(slug), 0);
        }

        sentence("Promise 5", "Returns how many are left");
        BeatSlugs full = boardOfAlike(24, 5);
        for (int left = 23; left >= 0; left--) {
            is("left", full.drop(left), left);
        }

        sentence("Promise 5", "NO_SUCH if there is no such slug");
        BeatSlugs three = boardOf(1, 2, 3);
        for (int none : NO_SLUGS) {
            is("drop(" + none + ")", three.drop(none), NO_SUCH);
        }
        three.drop(1);
        is("it went", three.drop(1), NO_SUCH);
    }

    private static void turn() {
        sentence("Promise 6", "Makes a slug a turn, or plain");
        BeatSlugs board = boardOfAlike(24, 5);
        for (int slug = 0; slug < 24; slug += 23) {
            board.turn(slug);
            is("a turn", board.of(slug, 3), 1);
            is("one act ends", board.ofAct(0, 5), slug + 1);
            board.turn(slug);
            is("plain", board.of(slug, 3), 0);
            is("one act, open", board.count(1) + board.ofAct(0, 4), 2);
        }

        sentence("Promise 6", "Returns 1 if it is a turn then, otherwise 0");
        is("plain before", board.turn(7), 1);
        is("a turn before", board.turn(7), 0);
        is("came as a turn", boardOf(-5).turn(0), 0);

        sentence("Promise 6", "NO_SUCH if there is no such slug");
        BeatSlugs three = boardOf(1, 2, 3);
        for (int none : NO_SLUGS) {
            is("turn(" + none + ")", three.turn(none), NO_SUCH);
        }
    }

    private static void need() {
        sentence("Promise 7", "Makes a slug need another one, or not need it any more, if it does");
        BeatSlugs board = boardOfAlike(24, 5);
        board.need(23, 0);
        is("it does", board.of(23, 4), 1);
        is("it has to be behind it", board.move(23, 0), NOT_POSSIBLE);
        board.need(23, 0);
        is("not any more", board.of(23, 4), 0);
        is("it can be anywhere", board.move(23, 0), 23);

        sentence("Promise 7", "Returns how many slugs it needs then");
        BeatSlugs full = boardOfAlike(24, 5);
        for (int other = 0; other < 23; other++) {
            is("one more", full.need(23, other), other + 1);
        }
        for (int other = 0; other < 23; other++) {
            is("one less", full.need(23, other), 22 - other);
        }
    }

    private static void needErrors() {
        sentence("Promise 7", "NO_SUCH if there is no such slug");
        BeatSlugs board = boardOf(1, 2, 3);
        for (int none : NO_SLUGS) {
            all(NO_SUCH, board.need(none, 0), board.need(2, none), board.need(none, none));
        }

        sentence("Promise 7", "BAD_VALUE if both are the same");
        all(BAD_VALUE, board.need(0, 0), board.need(2, 2));

        sentence("Promise 7", "NOT_POSSIBLE if the other one is not ahead of it (and it does not need it yet)");
        all(NOT_POSSIBLE, board.need(0, 1), board.need(0, 2), board.need(1, 2));
        board.move(2, 0);
        all(NOT_POSSIBLE, board.need(2, 0), board.need(2, 1));
        is("next ahead of it", board.need(0, 2), 1);
        is("further ahead", board.need(1, 2), 1);
        is("it needs it: not any more", board.need(1, 2), 0);
    }

    private static void trim() {
        sentence("Promise 8", "Trims a slug at its tail");
        BeatSlugs board = boardOf(20, 30);
        board.trim(0, 4);
        is("as trimmed", board.of(0, 2), 16);
        is("as written", board.of(0, 1), 20);
        is("it begins as before", board.of(0, 6), 0);
        is("the next one begins sooner", board.of(1, 6), 16);

        sentence("Promise 8", "`by`: 1 to 98");
        BeatSlugs longest = boardOf(99, 99);
        longest.set(BeatSlugs.TRIM, 90);
        is("1", longest.trim(1, 1), 98);
        is("89, the most that any can be", longest.trim(0, 89), 10);
        is("98 is no bad value", longest.trim(1, 98), NOT_POSSIBLE);

        sentence("Promise 8", "Returns its beats then");
        is("16 less 1", board.trim(0, 1), 15);
        is("15 less 5", board.trim(0, 5), 10);

        sentence("Promise 8", "NO_SUCH if there is no such slug");
        BeatSlugs three = boardOf(50, 60, 70);
        for (int none : NO_SLUGS) {
            is("trim(" + none + ", 1)", three.trim(none, 1), NO_SUCH);
        }

        sentence("Promise 8", "BAD_VALUE if by is out of range");
        all(BAD_VALUE, three.trim(0, 0), three.trim(0, -1), three.trim(0, 99), three.trim(0, 100), three.trim(0, FAR),
            three.trim(0, BELOW));

        sentence("Promise 8", "NOT_POSSIBLE if it would be trimmed too far");
        is("one too far", three.trim(0, 26), NOT_POSSIBLE);
        is("just so far", three.trim(0, 25), 25);
        is("one more", three.trim(0, 1), NOT_POSSIBLE);
        is("in two steps", three.trim(1, 29), 31);
        is("in two steps, one too far", three.trim(1, 2), NOT_POSSIBLE);
        is("in two steps, just so far", three.trim(1, 1), 30);
        is("a slug of one beat", boardOf(1).trim(0, 1), NOT_POSSIBLE);
    }

    private static void restoreTail() {
        sentence("Promise 9", "Gives a slug all its beats back");
        BeatSlugs board = boardOf(99, 30, 40);
        board.set(BeatSlugs.TRIM, 90);
        board.trim(0, 89);
        board.trim(1, 3);
        board.set(BeatSlugs.TRIM, 0);
        board.restoreTail(0);
        is("as trimmed", board.of(0, 2), 99);
        is("the other one stays so", board.of(1, 2), 27);

        sentence("Promise 9", "Returns how many it gets back");
        is("all of them are there", board.restoreTail(0), 0);
        is("3", board.restoreTail(1), 3);
        is("none", board.restoreTail(2), 0);
        board.undo();
        board.undo();
        board.undo();
        board.undo();
        is("89, the most", board.restoreTail(0), 89);

        sentence("Promise 9", "NO_SUCH if there is no such slug");
        for (int none : NO_SLUGS) {
            is("restoreTail(" + none + ")", board.restoreTail(none), NO_SUCH);
        }
    }

    private static void move() {
        sentence("Promise 10", "Moves a slug");
        BeatSlugs board = boardOf(1, 2, 3);
        board.move(0, 2);
        inRow("to the end", board, 1, 2, 0);

        sentence("Promise 10", "`place`: 0 to how many slugs there are - 1");
        is("the last place", board.move(1, 2), 0);
        is("no place", board.move(1, 3), NO_SUCH);
        is("the place 0", board.move(1, 0), 2);
        is("no place", board.move(1, -1), NO_SUCH);
        is("a board of one", boardOf(5).move(0, 0), 0);
        is("a board of one", boardOf(5).move(0, 1), NO_SUCH);
        is("a full board", boardOfAlike(24, 5).move(0, 23), 0);
        is("a full board", boardOfAlike(24, 5).move(0, 24), NO_SUCH);

        sentence("Promise 10", "Returns the place that it had");
        is("its own", board.move(2, 1), 1);
        is("to the end", board.move(2, 2), 1);
        is("to the front", board.move(2, 0), 2);

        sentence("Promise 10", "NO_SUCH if there is no such slug or place");
        for (int none : NO_SLUGS) {
            all(NO_SUCH, board.move(none, 0), board.move(0, none), board.move(none, none));
        }

        sentence("Promise 10", "NOT_POSSIBLE if some slug would not be behind all that it needs");
        BeatSlugs needs = boardOf(1, 2, 3, 4, 5);
        needs.need(2, 1);
        needs.need(3, 2);
        all(NOT_POSSIBLE, needs.move(2, 1), needs.move(2, 0), needs.move(2, 3), needs.move(2, 4), needs.move(1, 2),
            needs.move(1, 4), needs.move(3, 2), needs.move(3, 0));
        is("its own place", needs.move(2, 2), 2);
        is("one that needs nothing, and back", needs.move(0, 4) + needs.move(0, 0), 4);
        is("as far behind as it can be", needs.move(3, 4), 3);
        is("then there is room behind", needs.move(2, 3), 2);
        inRow("all that was done", needs, 0, 1, 4, 2, 3);
    }

    private static void swap() {
        sentence("Promise 11", "Swaps two slugs");
        BeatSlugs board = boardOf(1, 2, 3, 4);
        board.swap(0, 2);
        inRow("lower first", board, 2, 1, 0, 3);
        board.swap(3, 2);
        inRow("higher first", board, 3, 1, 0, 2);

        sentence("Promise 11", "Returns how many slugs are between them");
        is("none", board.swap(1, 3), 0);
        is("two", board.swap(1, 2), 2);
        is("two", board.swap(1, 2), 2);
        is("22", boardOfAlike(24, 5).swap(23, 0), 22);

        sentence("Promise 11", "NO_SUCH if there is no such slug");
        BeatSlugs three = boardOf(1, 2, 3);
        for (int none : NO_SLUGS) {
            all(NO_SUCH, three.swap(none, 0), three.swap(0, none), three.swap(none, none));
        }

        sentence("Promise 11", "BAD_VALUE if both are the same");
        all(BAD_VALUE, three.swap(0, 0), three.swap(2, 2), boardOf(5).swap(0, 0));

        sentence("Promise 11", "NOT_POSSIBLE if some slug would not be behind all that it needs");
        BeatSlugs needs = boardOf(1, 2, 3, 4, 5);
        needs.need(3, 1);
        all(NOT_POSSIBLE, needs.swap(1, 3), needs.swap(3, 1), needs.swap(3, 0), needs.swap(0, 3), needs.swap(1, 4),
            needs.swap(4, 1));
        is("between both", needs.swap(3, 2), 0);
        is("the other way", needs.swap(1, 0), 0);
        is("past both", needs.swap(0, 4), 2);
        inRow("all that was done", needs, 1, 4, 3, 2, 0);
    }

    private static void split() {
        sentence("Promise 12", "Splits a slug");
        BeatSlugs board = boardOf(10, 40);
        board.split(0, 3);
        inRow("in two", board, 0, 2, 1);
        is("beats", board.of(0, 2), 3);
        is("beats", board.of(2, 2), 7);

        sentence("Promise 12", "`at`: 1 to 98");
        is("1", boardOf(99).split(0, 1), 1);
        is("98", boardOf(99).split(0, 98), 1);

        sentence("Promise 12", "Returns the number of the new one");
        is("the next one", board.split(1, 20), 3);
        board.drop(0);
        is("the lowest free one", board.split(1, 10), 0);
        is("the 24th", boardOfAlike(23, 5).split(9, 1), 23);

        sentence("Promise 12", "NO_SUCH if there is no such slug");
        BeatSlugs three = boardOf(50, 60, 70);
        for (int none : NO_SLUGS) {
            is("split(" + none + ", 1)", three.split(none, 1), NO_SUCH);
        }

        sentence("Promise 12", "BAD_VALUE if at is out of range");
        all(BAD_VALUE, three.split(0, 0), three.split(0, -1), three.split(0, 99), three.split(0, 100), three.split(0, FAR),
            three.split(0, BELOW));

        sentence("Promise 12", "NOT_POSSIBLE if its beats as trimmed are at or fewer");
        three.trim(0, 20);
        all(NOT_POSSIBLE, three.split(0, 30), three.split(0, 31), three.split(0, 49), three.split(0, 50), three.split(0, 98),
            boardOf(1).split(0, 1));
        is("one more than at", three.split(0, 29), 3);
        is("two beats", boardOf(2).split(0, 1), 1);

        sentence("Promise 12", "TOO_MANY if there are 24 slugs");
        BeatSlugs full = boardOfAlike(23, 5);
        is("23 slugs", full.split(0, 1), 23);
        is("24 slugs", full.split(1, 1), TOO_MANY);
    }

    private static void fit() {
        sentence("Promise 13", "Fits an act");
        BeatSlugs board = boardOf(40, -40, 50, -60, 80);
        board.fit(1);
        is("that act", board.ofAct(1, 0), 60);
        is("the act ahead", board.ofAct(0, 0), 80);
        is("the act behind", board.ofAct(2, 0), 80);

        sentence("Promise 13", "Returns how many beats are trimmed");
        is("a closed one", board.fit(0), 20);
        is("an open one", board.fit(2), 20);
        is("it is fitted", board.fit(2), 0);

        sentence("Promise 13", "NO_SUCH if there is no such act");
        for (int none : new int[] {-1, 3, 5, 6, 24, FAR, BELOW}) {
            is("fit(" + none + ")", board.fit(none), NO_SUCH);
        }
        is("no slugs", new BeatSlugs().fit(0), NO_SUCH);
        is("none is open", boardOf(-99).fit(1), NO_SUCH);
        BeatSlugs most = boardOfAlike(24, -99);
        most.target(5, 70);
        is("the act 23", most.fit(23), 29);

        sentence("Promise 13", "NOT_POSSIBLE if it cannot be done");
        BeatSlugs hard = boardOf(99, -99, 99);
        hard.target(0, 98);
        is("just with the slack", hard.fit(0), 98);
        hard.target(0, 97);
        hard.target(1, 47);
        is("just with the slack, trimmed before", hard.fit(0), NOT_POSSIBLE);
        is("not with the slack, open", hard.fit(1), NOT_POSSIBLE);
        is("not trimmed at all", hard.of(2, 2), 99);
        hard.target(1, 48);
        is("just with the slack, open", hard.fit(1), 49);
    }
}
