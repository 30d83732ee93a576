import java.util.Arrays;

/** "What it is", "Terms", "Settings", "Slugs" and "Acts". */
final class TermSentences extends Sentences {
    private static final int FULL_SET = (1 << MOST_SLUGS) - 1;

    static void run() {
        anActEndsOnItsTurn();
        calls512();
        errorCodes();
        firstErrorThatApplies();
        noneIsNoError();
        noneOnlyIfNoErrorApplies();
        numberedFrom0();
        toldInBeats();
        roundedDown();
        bitMasks();
        rangesAndFirstValues();
        page();
        slack();
        trim();
        upTo24();
        lowestFreeNumber();
        beatsAsWritten();
        beatsAsTrimmedAtFirst();
        leastBeats();
        plainOrTurn();
        rank();
        begins();
        aheadInTheRow();
        eachTurnEndsAnAct();
        openAct();
        actsFrom0();
        targetsAtFirst();
        actsFrom6();
        offAndFits();
    }

    private static void anActEndsOnItsTurn() {
        sentence("What it is", "Storyboard slugs timed by beats so that an act ends on its turn");
        BeatSlugs board = boardOf(20, -40, 30);
        is("the turn's act", board.of(1, 8), 0);
        is("the act of the slug behind it", board.of(2, 8), 1);
    }

    private static void calls512() {
        sentence("What it is", "An object is used for at most 512 calls after it has been made; what later calls answer is free");
        BeatSlugs board = new BeatSlugs();
        for (int call = 1; call <= 508; call += 4) {
            is("call " + call, board.slug(0, 10, 0), 0);
            is("call " + (call + 1), board.put(packed("t0-1")), 4);
            is("call " + (call + 2), board.carryOut(), 1);
            is("call " + (call + 3), board.drop(0), 0);
        }
        is("call 509", board.undo(), 5);
        is("call 510", board.of(0, 2), 9);
        is("call 511", board.undo(), 4);
        is("call 512", board.of(0, 2), 10);
    }

    private static void errorCodes() {
        sentence("Terms", "CONVENTIONS. A method that fails returns one of the error codes NO_SUCH (-1), BAD_VALUE (-2), BAD_TEXT (-3), TOO_MANY (-4) and NOT_POSSIBLE (-5)");
        BeatSlugs empty = new BeatSlugs();
        is("NO_SUCH", empty.drop(0), -1);
        is("BAD_VALUE", empty.set(3, 0), -2);
        is("BAD_TEXT", empty.carryOut(), -3);
        is("TOO_MANY", boardOfAlike(24, 5).slug(0, 5, 0), -4);
        is("NOT_POSSIBLE", empty.undo(), -5);
    }

    /** Calls to which two of their errors apply, or more. */
    private static void firstErrorThatApplies() {
        sentence("Terms", "it names its errors in the order in which they are checked, and the first one that applies is returned");
        BeatSlugs full = boardOfAlike(24, 1);
        BeatSlugs some = boardOf(10, 20);
        some.need(1, 0);
        write(full, "s".repeat(80));
        is("target: no act, bad beats", full.target(6, 0), NO_SUCH);
        is("target: no act, bad beats", full.target(-1, 1000), NO_SUCH);
        is("slug: no place, bad beats, full", full.slug(25, 0, 0), NO_SUCH);
        is("slug: no place, bad turn, full", full.slug(-1, 5, 2), NO_SUCH);
        is("slug: no place, full", full.slug(25, 5, 0), NO_SUCH);
        is("slug: bad beats, full", full.slug(24, 100, 0), BAD_VALUE);
        is("slug: bad turn, full", full.slug(24, 5, 2), BAD_VALUE);
        is("slug: no place, bad beats", some.slug(3, 0, 0), NO_SUCH);
        is("need: no slugs, the same", some.need(2, 2), NO_SUCH);
        is("trim: no slug, bad by", some.trim(2, 0), NO_SUCH);
        is("trim: bad by, too far", some.trim(0, 99), BAD_VALUE);
        is("move: no slug, no place", some.move(2, 2), NO_SUCH);
        is("move: no place, not behind", some.move(1, -1), NO_SUCH);
        is("swap: no slugs, the same", some.swap(2, 2), NO_SUCH);
        is("split: no slug, bad at", some.split(2, 0), NO_SUCH);
        is("split: no slug, bad at, full", full.split(24, 99), NO_SUCH);
        is("split: bad at, too few beats", some.split(0, 99), BAD_VALUE);
        is("split: bad at, full", full.split(0, 0), BAD_VALUE);
        is("split: too few beats, full", full.split(0, 1), NOT_POSSIBLE);
        is("of: no slug, bad what", some.of(2, 10), NO_SUCH);
        is("ofAct: no act, bad what", some.ofAct(1, 8), NO_SUCH);
        is("put: bad characters, full", full.put(32L), BAD_VALUE);
        is("put: no character, full", full.put(0L), BAD_VALUE);
        is("restore: no slot, nothing saved", some.restore(2), BAD_VALUE);
    }

    private static void noneIsNoError() {
        sentence("Terms", "NONE (-6) is not an error");
        BeatSlugs board = boardOf(10);
        write(board, "s5");
        all(-6, board.atBeat(10), board.bestSwap(0), board.bestSwap(1), board.bestSwap(2), board.fault());
        is("count(6) without slugs", new BeatSlugs().count(6), -6);
    }

    private static void noneOnlyIfNoErrorApplies() {
        sentence("Terms", "it is returned only if no error applies");
        BeatSlugs empty = new BeatSlugs();
        is("atBeat: below 0, all over", empty.atBeat(-1), BAD_VALUE);
        is("bestSwap: bad what, none helps", empty.bestSwap(3), BAD_VALUE);
        is("bestSwap: bad what, none helps", empty.bestSwap(-1), BAD_VALUE);
        is("count: bad what, no longest slug", empty.count(-6), BAD_VALUE);
    }

    private static void numberedFrom0() {
        sentence("Terms", "Everything is numbered from 0");
        BeatSlugs board = new BeatSlugs();
        is("the first slug", board.slug(0, 5, 1), 0);
        is("the first place", board.at(0), 0);
        is("the first beat", board.atBeat(0), 0);
        is("its place, beat, page and act", board.of(0, 0) + board.of(0, 6) + board.of(0, 7) + board.of(0, 8), 0);
        is("the first act", board.ofAct(0, 0), 5);
        is("the first character", board.fault(), 0);
        is("the first slot", board.save(0), 1);
    }

    private static void toldInBeats() {
        sentence("Terms", "Times are told in beats");
        BeatSlugs board = boardOf(7, -8, 9);
        is("where a slug begins", board.of(2, 6), 15);
        is("where an act begins", board.ofAct(1, 6), 15);
        is("how long all is", board.count(2), 24);
    }

    private static void roundedDown() {
        sentence("Terms", "Divisions are rounded down");
        BeatSlugs board = boardOf(31, 1, 3);
        is("the beat 31 of pages of 16", board.of(1, 7), 1);
        is("the beat 32 of pages of 16", board.of(2, 7), 2);
        is("half of 31 beats can go", board.of(0, 9), 15);
        is("half of 3 beats can go", board.of(2, 9), 1);
    }

    private static void bitMasks() {
        sentence("Terms", "Sets of slugs are bit masks");
        BeatSlugs board = boardOfAlike(24, 5);
        board.move(0, 23);
        for (int other = 1; other < 24; other++) {
            is("need " + other, board.need(0, other), other);
        }
        is("slugs", board.count(0), FULL_SET);
        is("slugs that 0 needs", board.of(0, 4), FULL_SET - 1);
        is("all slugs that 0 needs", board.needs(0), FULL_SET - 1);
        is("slugs that need 23", board.of(23, 5), 1);
        is("places of 23", board.places(23), FULL_SET >> 1);
        is("places of 0", board.places(0), 1 << 23);
    }

    private static void inRange(int setting, int least, int most, int first) {
        BeatSlugs board = new BeatSlugs();
        is("its first value", board.count(7 + setting), first);
        all(BAD_VALUE, board.set(setting, least - 1), board.set(setting, most + 1), board.set(setting, BELOW),
            board.set(setting, FAR), board.set(setting, -least - 1));
        is("refused values", board.count(7 + setting), first);
        for (int value = least; value <= most; value++) {
            is("set to " + value, board.set(setting, value), value == least ? first : value - 1);
            is("set to " + value, board.count(7 + setting), value);
        }
        is("back to the least one", board.set(setting, least), most);
    }

    private static void rangesAndFirstValues() {
        sentence("Settings", "(In parentheses: range; first value.)");
        inRange(BeatSlugs.PAGE, 4, 60, 16);
        inRange(BeatSlugs.SLACK, 0, 20, 2);
        inRange(BeatSlugs.TRIM, 0, 90, 50);
    }

    private static void page() {
        sentence("Settings", "PAGE (4 to 60; 16): beats of a page");
        inRange(BeatSlugs.PAGE, 4, 60, 16);
        BeatSlugs board = boardOf(59, 1, 1);
        int[][] pages = {{4, 14, 15, 16}, {16, 3, 3, 4}, {59, 1, 1, 2}, {60, 0, 1, 2}};
        for (int[] page : pages) {
            board.set(BeatSlugs.PAGE, page[0]);
            is("page of the beat 59", board.of(1, 7), page[1]);
            is("page of the beat 60", board.of(2, 7), page[2]);
            is("pages", board.count(3), page[3]);
        }
    }

    private static void slack() {
        sentence("Settings", "SLACK (0 to 20; 2): by how much an act may be off its target");
        inRange(BeatSlugs.SLACK, 0, 20, 2);
        for (int slack = 0; slack <= 20; slack++) {
            BeatSlugs board = boardOf(-60);
            board.set(BeatSlugs.SLACK, slack);
            for (int off = -22; off <= 22; off++) {
                board.target(0, 60 - off);
                is("off by " + off + " with " + slack, board.ofAct(0, 3), off >= -slack && off <= slack ? 1 : 0);
            }
        }
    }

    private static void trim() {
        sentence("Settings", "TRIM (0 to 90; 50): hundredths of a slug that can be trimmed");
        inRange(BeatSlugs.TRIM, 0, 90, 50);
        BeatSlugs board = boardOf(99, 10);
        is("half of 99", board.of(0, 9), 49);
        is("half of 10", board.of(1, 9), 5);
        board.set(BeatSlugs.TRIM, 90);
        is("90 hundredths of 99", board.of(0, 9), 89);
        is("90 hundredths of 10", board.of(1, 9), 9);
        board.set(BeatSlugs.TRIM, 9);
        is("9 hundredths of 99", board.of(0, 9), 8);
        is("9 hundredths of 10", board.of(1, 9), 0);
        board.set(BeatSlugs.TRIM, 0);
        is("nothing of 99", board.of(0, 9), 0);
    }

    private static void upTo24() {
        sentence("Slugs", "There are up to 24 slugs in a row");
        BeatSlugs board = boardOfAlike(23, 5);
        is("the 24th", board.slug(23, 5, 0), 23);
        is("the 25th", board.slug(24, 5, 0), TOO_MANY);
        is("the 25th, by split()", board.split(0, 2), TOO_MANY);
        write(board, "s5");
        is("the 25th, by a text", board.carryOut(), 0);
        is("slugs", board.count(0), FULL_SET);
        is("the last place", board.at(23), 23);
        is("no place", board.at(24), NO_SUCH);
    }

    private static void lowestFreeNumber() {
        sentence("Slugs", "each has a number, the lowest one that is free as it comes (0 to 23)");
        BeatSlugs board = boardOfAlike(24, 9);
        for (int slug : new int[] {23, 7, 0, 15, 8}) {
            board.drop(slug);
        }
        is("in front", board.slug(0, 5, 0), 0);
        is("at the end", board.slug(20, 5, 0), 7);
        is("by split()", board.split(3, 4), 8);
        write(board, "s5;s6");
        is("by a text", board.carryOut(), 2);
        is("by a text", board.of(15, 1), 5);
        is("by a text", board.of(23, 1), 6);
        board.drop(0);
        is("the first one again", board.slug(10, 5, 0), 0);
    }

    private static void beatsAsWritten() {
        sentence("Slugs", "beats as it was written (1 to 99)");
        for (int beats = 1; beats <= 99; beats++) {
            is("slug of " + beats, boardOf(beats).of(0, 1), beats);
        }
        BeatSlugs board = new BeatSlugs();
        all(BAD_VALUE, board.slug(0, 0, 0), board.slug(0, 100, 0), board.slug(0, -1, 0), board.slug(0, FAR, 0),
            board.slug(0, BELOW, 0));
        write(board, "s0");
        is("slug of 0, by a text", board.carryOut(), 0);
        board.slug(0, 20, 0);
        board.trim(0, 5);
        is("trimmed", board.of(0, 1), 20);
    }

    private static void beatsAsTrimmedAtFirst() {
        sentence("Slugs", "beats as it is trimmed: as written at first");
        BeatSlugs board = boardOf(20);
        board.trim(0, 10);
        board.drop(0);
        is("the number comes again", board.slug(0, 30, 0), 0);
        is("as trimmed", board.of(0, 2), 30);
    }

    /** Each length with each TRIM: as many beats as can be trimmed, and not one more. */
    private static void leastBeats() {
        sentence("Slugs", "at least written - written * TRIM / 100 by trimming (at least 1 in any case)");
        for (int trim = 0; trim <= 90; trim++) {
            for (int written = 1; written <= 99; written++) {
                BeatSlugs board = boardOf(written);
                board.set(BeatSlugs.TRIM, trim);
                int least = Math.max(1, written - written * trim / 100);
                String what = written + " beats, TRIM " + trim;
                is(what + ": can be trimmed", board.of(0, 9), written - least);
                is(what + ": one too many", board.trim(0, written - least + 1), NOT_POSSIBLE);
                is(what + ": all of them", least < written ? board.trim(0, written - least) : least, least);
                is(what + ": one more", board.trim(0, 1), NOT_POSSIBLE);
            }
        }
    }

    private static void plainOrTurn() {
        sentence("Slugs", "A slug is plain or a turn");
        BeatSlugs board = boardOf(5, -5);
        is("plain", board.of(0, 3), 0);
        is("a turn", board.of(1, 3), 1);
    }

    private static void rank() {
        sentence("Slugs", "Its place is its rank in the row, from 0 on");
        BeatSlugs board = boardOfAlike(24, 5);
        board.move(23, 0);
        is("the last one in front", board.of(23, 0), 0);
        is("all others one back", board.of(22, 0), 23);
        board.drop(23);
        is("all others one ahead", board.of(22, 0), 22);
        is("the first one", board.of(0, 0), 0);
    }

    private static void begins() {
        sentence("Slugs", "it begins at the sum of the beats of all slugs ahead of it");
        BeatSlugs board = boardOfAlike(24, 99);
        is("the first one", board.of(0, 6), 0);
        is("the second one", board.of(1, 6), 99);
        is("the last one", board.of(23, 6), 23 * 99);
        board.trim(0, 49);
        board.trim(23, 49);
        is("as trimmed", board.of(23, 6), 23 * 99 - 49);
    }

    private static void aheadInTheRow() {
        sentence("Slugs", "A slug can need some others: these have to be ahead of it in the row");
        BeatSlugs board = boardOf(1, 2, 3);
        board.move(2, 0);
        for (int slug = 0; slug < 3; slug++) {
            for (int other = 0; other < 3; other++) {
                boolean ahead = board.of(other, 0) < board.of(slug, 0);
                is(slug + " needs " + other, board.need(slug, other), slug == other ? BAD_VALUE : ahead
                    ? Integer.bitCount(board.of(slug, 4)) : NOT_POSSIBLE);
            }
        }
        is("the last one needs two", board.of(1, 4), 1 + 4);
        is("the one in the middle", board.of(0, 4), 4);
        is("the first one needs none", board.of(2, 4), 0);
    }

    private static void eachTurnEndsAnAct() {
        sentence("Acts", "An act ends with each turn");
        is("no slugs, no acts", new BeatSlugs().count(1), 0);
        BeatSlugs board = boardOfAlike(24, -3);
        is("24 turns", board.count(1), 24);
        for (int slug = 0; slug < 24; slug++) {
            is("act of the turn " + slug, board.of(slug, 8), slug);
            is("slugs of the act " + slug, board.ofAct(slug, 5), 1);
            is("begin of the act " + slug, board.ofAct(slug, 6), 3 * slug);
            is("the act " + slug + " is not open", board.ofAct(slug, 4), 0);
        }
        is("no more", board.ofAct(24, 0), NO_SUCH);
    }

    private static void openAct() {
        sentence("Acts", "slugs behind the last turn are an act, too, an open one");
        BeatSlugs board = boardOf(5, 6);
        is("no turn: one act", board.count(1), 1);
        is("no turn: it is open", board.ofAct(0, 4), 1);
        is("no turn: all slugs", board.ofAct(0, 5), 2);
        board.turn(1);
        is("the last one is a turn: one act", board.count(1), 1);
        is("the last one is a turn: not open", board.ofAct(0, 4), 0);
        board.slug(2, 7, 0);
        is("one behind it: two acts", board.count(1), 2);
        is("one behind it: open", board.ofAct(1, 4), 1);
        is("one behind it: the first one is not", board.ofAct(0, 4), 0);
        is("one behind it: beats", board.ofAct(1, 0), 7);
    }

    private static void actsFrom0() {
        sentence("Acts", "Acts are numbered from 0");
        BeatSlugs board = boardOf(-5, 6, -7, 8);
        is("beats", board.ofAct(0, 0), 5);
        is("beats", board.ofAct(1, 0), 13);
        is("beats", board.ofAct(2, 0), 8);
        all(NO_SUCH, board.ofAct(-1, 0), board.ofAct(3, 0), board.ofAct(FAR, 0), board.ofAct(BELOW, 0));
        int[] acts = {0, 1, 1, 2};
        for (int slug = 0; slug < acts.length; slug++) {
            is("act of " + slug, board.of(slug, 8), acts[slug]);
        }
    }

    private static void targetsAtFirst() {
        sentence("Acts", "Each of the acts 0 to 5 has a target, 1 to 999 beats (60 at first)");
        BeatSlugs board = boardOfAlike(24, -5);
        for (int act = 0; act < 6; act++) {
            is("at first", board.ofAct(act, 1), 60);
            all(BAD_VALUE, board.target(act, 0), board.target(act, 1000));
            is("the least one", board.target(act, 1), 60);
            is("the most", board.target(act, 999), 1);
            is("one for each", board.target(act, 100 + act), 999);
        }
        for (int act = 0; act < 6; act++) {
            is("one for each", board.ofAct(act, 1), 100 + act);
        }
    }

    private static void actsFrom6() {
        sentence("Acts", "the acts from 6 on have that of the act 5");
        BeatSlugs board = boardOfAlike(24, -5);
        board.target(5, 11);
        board.target(4, 7);
        is("act 4", board.ofAct(4, 1), 7);
        for (int act = 5; act < 24; act++) {
            is("act " + act, board.ofAct(act, 1), 11);
            is("off by, act " + act, board.ofAct(act, 2), 5000 - 6);
        }
        is("off together", board.count(4), 4 * 55 + 2 + 19 * 6);
    }

    private static void offAndFits() {
        sentence("Acts", "An act is off by its beats less its target, and fits if that, without its sign, is at most SLACK, and it is not open");
        BeatSlugs most = boardOfAlike(24, 99);
        most.turn(23);
        most.target(0, 1);
        is("the longest act", most.ofAct(0, 2), 5000 + 24 * 99 - 1);
        BeatSlugs least = boardOf(-1);
        least.target(0, 999);
        is("the shortest act", least.ofAct(0, 2), 5000 - 998);
        int[][] lengths = {{57, 0}, {58, 1}, {60, 1}, {62, 1}, {63, 0}};
        for (int[] length : lengths) {
            BeatSlugs board = boardOf(-length[0]);
            is(length[0] + " beats of 60", board.ofAct(0, 2), 5000 + length[0] - 60);
            is(length[0] + " beats of 60 fit", board.ofAct(0, 3), length[1]);
            is(length[0] + " beats of 60 fit", board.count(5), length[1]);
            is(length[0] + " beats, open", Arrays.stream(new int[] {board.turn(0), board.ofAct(0, 3), board.count(5)}).sum(), 0);
        }
    }
}
