import java.util.ArrayList;
import java.util.List;
import java.util.function.Supplier;
import java.util.function.ToIntFunction;

/** The promises 28 to 30, which calls are changes, and which calls leave no trace. */
final class HistorySentences extends Sentences {
    private static final int CHANGES = 14;
    private static final int LOOKS = 11;

    static void run() {
        errorsChangeNothing();
        errorsOfFullBoards();
        errorsOfEmptyBoards();
        eachChange();
        sectionsOfTheFace();
        undo();
        recorded();
        oldestIsDropped();
        ordersRecordNothing();
        undoReturns();
        save();
        saveReturns();
        restore();
        restoreReturns();
    }

    /** A board on which there is everything: trims, needs, turns, both slots, a full history and a pad. */
    private static BeatSlugs busyBoard() {
        BeatSlugs board = boardOf(20, 30, -40, 50, -60, 9);
        board.save(0);
        board.set(BeatSlugs.PAGE, 10);
        board.set(BeatSlugs.TRIM, 60);
        board.need(2, 0);
        board.need(5, 3);
        board.trim(0, 4);
        board.save(1);
        board.target(0, 77);
        board.set(BeatSlugs.SLACK, 5);
        board.trim(4, 10);
        board.move(1, 0);
        board.turn(3);
        board.need(3, 2);
        write(board, "s5;t0-1");
        return board;
    }

    private static BeatSlugs fullBoard() {
        BeatSlugs board = boardOfAlike(24, 9);
        write(board, "s5" + ";t0-1".repeat(15) + ";f");
        board.put(packed("0"));
        return board;
    }

    private static BeatSlugs faultyBoard() {
        BeatSlugs board = busyBoard();
        board.put(packed(";"));
        return board;
    }

    /** A call on boards whose twins do without it: whatever is looked at then, both have to look alike. */
    private static void noTrace(Supplier<BeatSlugs> boards, String call, ToIntFunction<BeatSlugs> does, int want) {
        for (int look = 0; look < LOOKS; look++) {
            BeatSlugs board = boards.get();
            is(call, does.applyAsInt(board), want);
            yes(call + " leaves no trace, look " + look, seen(board, look).equals(seen(boards.get(), look)));
        }
    }

    /** What there is, or what comes to light by one to seven calls of undo(), by restore(), or by carryOut(). */
    private static List<Integer> seen(BeatSlugs board, int look) {
        List<Integer> seen = new ArrayList<>(List.of(board.count(10), board.fault(), board.count(11)));
        if (look < 8) {
            for (int undone = 0; undone < look; undone++) {
                seen.add(board.undo());
            }
        } else {
            seen.add(look < 10 ? board.restore(look - 8) : board.carryOut());
        }
        seen.addAll(view(board));
        return seen;
    }

    private static void errorsChangeNothing() {
        sentence("Terms", "A call that returns an error changes nothing");
        Supplier<BeatSlugs> busy = HistorySentences::busyBoard;
        noTrace(busy, "set: no setting", board -> board.set(3, 10), BAD_VALUE);
        noTrace(busy, "set: bad value", board -> board.set(0, 61), BAD_VALUE);
        noTrace(busy, "target: no act", board -> board.target(6, 10), NO_SUCH);
        noTrace(busy, "target: bad beats", board -> board.target(0, 0), BAD_VALUE);
        noTrace(busy, "slug: no place", board -> board.slug(7, 5, 0), NO_SUCH);
        noTrace(busy, "slug: bad beats", board -> board.slug(0, 100, 0), BAD_VALUE);
        noTrace(busy, "slug: bad turn", board -> board.slug(0, 5, 2), BAD_VALUE);
        noTrace(busy, "drop: no slug", board -> board.drop(6), NO_SUCH);
        noTrace(busy, "turn: no slug", board -> board.turn(6), NO_SUCH);
        noTrace(busy, "need: no slug", board -> board.need(2, 6), NO_SUCH);
        noTrace(busy, "need: the same", board -> board.need(2, 2), BAD_VALUE);
        noTrace(busy, "need: not ahead", board -> board.need(0, 2), NOT_POSSIBLE);
        noTrace(busy, "trim: no slug", board -> board.trim(6, 1), NO_SUCH);
        noTrace(busy, "trim: bad by", board -> board.trim(0, 0), BAD_VALUE);
        noTrace(busy, "trim: too far", board -> board.trim(0, 9), NOT_POSSIBLE);
        noTrace(busy, "restoreTail: no slug", board -> board.restoreTail(6), NO_SUCH);
        noTrace(busy, "move: no place", board -> board.move(1, 6), NO_SUCH);
        noTrace(busy, "move: ahead of what it needs", board -> board.move(2, 0), NOT_POSSIBLE);
        noTrace(busy, "move: behind what needs it", board -> board.move(3, 5), NOT_POSSIBLE);
        noTrace(busy, "swap: no slug", board -> board.swap(1, 6), NO_SUCH);
        noTrace(busy, "swap: the same", board -> board.swap(1, 1), BAD_VALUE);
        noTrace(busy, "swap: not behind", board -> board.swap(0, 2), NOT_POSSIBLE);
        noTrace(busy, "split: no slug", board -> board.split(6, 1), NO_SUCH);
        noTrace(busy, "split: bad at", board -> board.split(1, 0), BAD_VALUE);
        noTrace(busy, "split: too few beats", board -> board.split(0, 16), NOT_POSSIBLE);
        noTrace(busy, "fit: no act", board -> board.fit(4), NO_SUCH);
        noTrace(() -> hardBoard(), "fit: not possible", board -> board.fit(0), NOT_POSSIBLE);
        noTrace(busy, "save: no slot", board -> board.save(2), BAD_VALUE);
        noTrace(busy, "restore: no slot", board -> board.restore(2), BAD_VALUE);
        noTrace(busy, "put: bad character", board -> board.put(packed("s 5")), BAD_VALUE);
        noTrace(HistorySentences::faultyBoard, "carryOut: a fault", board -> board.carryOut(), BAD_TEXT);
    }

    private static BeatSlugs hardBoard() {
        BeatSlugs board = busyBoard();
        board.target(0, 1);
        return board;
    }

    private static void errorsOfFullBoards() {
        sentence("Terms", "A call that returns an error changes nothing");
        Supplier<BeatSlugs> full = HistorySentences::fullBoard;
        noTrace(full, "slug: full", board -> board.slug(0, 5, 1), TOO_MANY);
        noTrace(full, "split: full", board -> board.split(0, 1), TOO_MANY);
        noTrace(full, "put: full", board -> board.put(packed("s")), TOO_MANY);
        noTrace(full, "slug: no place", board -> board.slug(25, 5, 1), NO_SUCH);
        noTrace(full, "split: too few beats", board -> board.split(0, 9), NOT_POSSIBLE);
    }

    private static void errorsOfEmptyBoards() {
        sentence("Terms", "A call that returns an error changes nothing");
        Supplier<BeatSlugs> empty = BeatSlugs::new;
        noTrace(empty, "undo: none", board -> board.undo(), NOT_POSSIBLE);
        noTrace(empty, "restore: nothing saved", board -> board.restore(0), NOT_POSSIBLE);
        noTrace(empty, "restore: nothing saved", board -> board.restore(1), NOT_POSSIBLE);
        noTrace(empty, "carryOut: empty", board -> board.carryOut(), BAD_TEXT);
        noTrace(empty, "fit: no act", board -> board.fit(0), NO_SUCH);
        noTrace(empty, "put: no character", board -> board.put(0L), BAD_VALUE);
    }

    private static int change(BeatSlugs board, int kind) {
        switch (kind) {
            case 0: return board.set(BeatSlugs.PAGE, 5);
            case 1: return board.target(1, 5);
            case 2: return board.slug(0, 5, 1);
            case 3: return board.drop(0);
            case 4: return board.turn(0);
            case 5: return board.need(3, 0);
            case 6: return board.trim(0, 1);
            case 7: return board.restoreTail(0);
            case 8: return board.move(1, 1);
            case 9: return board.swap(0, 1);
            case 10: return board.split(0, 1);
            case 11: return board.fit(0);
            case 12: return board.restore(0);
            default: return board.carryOut();
        }
    }

    private static void eachChange() {
        for (int kind = 0; kind < CHANGES; kind++) {
            sentence("Promise " + (kind < 12 ? 2 + kind : kind == 12 ? 30 : 27), "This is a change");
            BeatSlugs board = kind == 11 ? longBoard() : busyBoard();
            List<Integer> before = view(board);
            yes("no error", change(board, kind) >= 0);
            is("the history is full", board.count(11), 6);
            yes("something is different", !view(board).equals(before));
            is("undo", board.undo(), 5);
            yes("nothing is different any more", view(board).equals(before));
        }
    }

    private static BeatSlugs longBoard() {
        BeatSlugs board = busyBoard();
        board.target(0, 70);
        return board;
    }

    private static void sectionsOfTheFace() {
        sentence("Texts", "---- changes");
        for (int kind = 0; kind < 12; kind++) {
            BeatSlugs board = boardOf(30, 30, -40, 50);
            yes("change " + kind, change(board, kind) >= 0);
            is("change " + kind + " is recorded", board.count(11), 5);
        }
        Supplier<BeatSlugs> busy = HistorySentences::busyBoard;
        sentence("Texts", "---- what there is");
        noTrace(busy, "of", board -> board.of(0, 0), 1);
        noTrace(busy, "at", board -> board.at(0), 1);
        noTrace(busy, "atBeat", board -> board.atBeat(30), 0);
        noTrace(busy, "ofAct", board -> board.ofAct(0, 1), 77);
        noTrace(busy, "count", board -> board.count(11), 6);
        sentence("Texts", "---- what if; nothing changes");
        noTrace(busy, "places", board -> board.places(1), 63);
        for (int what = 0; what < 3; what++) {
            int number = what;
            noTrace(busy, "bestSwap", board -> Math.min(0, board.bestSwap(number)), 0);
        }
        noTrace(HistorySentences::longBoard, "ifFitted", board -> board.ifFitted(0), 16);
        noTrace(HistorySentences::hardBoard, "ifFitted", board -> board.ifFitted(0), NOT_POSSIBLE);
        noTrace(busy, "ifTurned", board -> Math.min(0, board.ifTurned(0)), 0);
        noTrace(busy, "needs", board -> board.needs(5), 1 + 4 + 8);
        sentence("Texts", "---- texts");
        noTrace(busy, "fault", board -> board.fault(), NONE);
        BeatSlugs texts = boardOf(5);
        is("put", texts.put(packed("s5")), 2);
        is("put is no change", texts.count(11), 1);
        is("wipe", texts.wipe(), 2);
        is("wipe is no change", texts.count(11), 1);
        sentence("Texts", "---- undo, saving");
        is("undo is no change", texts.undo() + texts.count(11), 0);
        is("save is no change", texts.save(0) + texts.count(11), 0);
        is("restore is one", texts.restore(0) + texts.count(11), 1);
    }

    private static void undo() {
        sentence("Promise 28", "Undoes the latest change: everything except the pad, the slots and the history is as it was before it");
        BeatSlugs board = boardOf(10, 20);
        List<Integer> before = view(board);
        board.save(0);
        board.drop(0);
        board.save(1);
        write(board, "s5");
        is("undo", board.undo(), 2);
        yes("as it was", view(board).equals(before));
        is("the pad is not", board.count(10), 2);
        is("the slot 1 is not", board.restore(1), 1);
        is("the slot 0 is not", board.restore(0), 2);
        is("the text", board.carryOut(), 1);
        is("undo does not bring the text back", board.undo() * 100 + board.count(10), 400);
        BeatSlugs twice = boardOf(1, 2, 3, 4);
        is("first", twice.undo(), 3);
        is("second: the change before it, not the first undo", twice.undo(), 2);
        is("two are gone", twice.count(0), 3);
        is("a change after undo", twice.slug(0, 9, 0), 2);
        is("is undone alone", twice.undo(), 2);
        is("two are there", twice.count(0), 3);
    }

    private static void recorded() {
        sentence("Promise 28", "each method that is a change, and returns no error, records the state before it (also if nothing is different then)");
        idle("set", board -> board.set(BeatSlugs.PAGE, 16));
        idle("target", board -> board.target(0, 60));
        idle("restoreTail", board -> board.restoreTail(0));
        idle("move", board -> board.move(0, 0));
        idle("fit", board -> board.fit(0));
        idle("restore", board -> board.restore(0));
        idle("carryOut, none is carried out", board -> board.carryOut());
    }

    private static void idle(String call, ToIntFunction<BeatSlugs> does) {
        BeatSlugs board = boardOf(30, -30);
        board.save(0);
        write(board, "n0>1");
        List<Integer> before = view(board);
        yes(call, does.applyAsInt(board) >= 0);
        is(call + " is recorded", board.count(11), 3);
        yes(call + ": nothing is different", view(board).equals(before));
        is(call + " is undone", board.undo(), 2);
        yes(call + ": nothing is different after undo", view(board).equals(before));
    }

    private static void oldestIsDropped() {
        sentence("Promise 28", "A history of at most 6 states is kept");
        BeatSlugs board = new BeatSlugs();
        for (int slug = 0; slug < 24; slug++) {
            board.slug(slug, 5, 0);
            is("changes to undo", board.count(11), Math.min(6, slug + 1));
        }

        sentence("Promise 28", "when one more is recorded, the oldest one is dropped");
        for (int changes = 5; changes <= 20; changes++) {
            BeatSlugs many = boardOfAlike(changes, 5);
            int kept = Math.min(6, changes);
            for (int left = kept - 1; left >= 0; left--) {
                is("undo of " + changes, many.undo(), left);
                is("slugs then", many.count(0), (1 << changes - kept + left) - 1);
            }
            is("no more of " + changes, many.undo(), NOT_POSSIBLE);
            is("slugs then", many.count(0), (1 << changes - kept) - 1);
        }
        BeatSlugs refused = boardOfAlike(6, 5);
        all(NO_SUCH, refused.drop(9), refused.turn(9), refused.fit(9), refused.move(9, 9), refused.slug(9, 5, 0));
        for (int left = 5; left >= 0; left--) {
            is("refused calls drop none", refused.undo(), left);
        }
        is("refused calls drop none", refused.count(0), 0);
    }

    private static void ordersRecordNothing() {
        sentence("Promise 28", "An order of a text records nothing by itself");
        BeatSlugs board = boardOf(50);
        write(board, "s40;s30;n1>0;m2@0;x2~0;t0-9;f0");
        is("seven orders", board.carryOut(), 7);
        is("one state more", board.count(11), 2);
        is("all are undone at once", board.undo(), 1);
        is("one slug", board.count(0) * 100 + board.of(0, 2), 150);
    }

    private static void undoReturns() {
        sentence("Promise 28", "Returns how many changes can be undone then");
        BeatSlugs board = boardOf(1, 2, 3);
        for (int left = 2; left >= 0; left--) {
            is("undo", board.undo(), left);
            is("as counted", board.count(11), left);
        }

        sentence("Promise 28", "NOT_POSSIBLE if there is none");
        all(NOT_POSSIBLE, board.undo(), board.undo(), new BeatSlugs().undo());
        board.slug(0, 5, 0);
        is("one again", board.undo(), 0);
        is("none again", board.undo(), NOT_POSSIBLE);
        BeatSlugs refused = new BeatSlugs();
        refused.drop(0);
        refused.save(0);
        refused.put(packed("s"));
        is("only refused calls and no changes", refused.undo(), NOT_POSSIBLE);
    }

    private static void save() {
        sentence("Promise 29", "Saves everything except the pad, the history and the slots in a slot, and overwrites what was saved there");
        BeatSlugs board = busyBoard();
        List<Integer> saved = view(board);
        board.save(0);
        for (int slug = 0; slug < 6; slug++) {
            board.drop(slug);
        }
        board.set(BeatSlugs.PAGE, 30);
        board.set(BeatSlugs.SLACK, 0);
        board.set(BeatSlugs.TRIM, 1);
        board.target(0, 1);
        board.target(5, 2);
        board.wipe();
        is("restored", board.restore(0), 6);
        yes("everything", view(board).equals(saved));
        is("not the pad", board.count(10), 0);
        is("not the history", board.count(11), 6);
        is("undo leads to the state before", board.undo() * 10 + board.count(0), 50);
        is("overwritten", board.save(0), 0);
        is("an empty board", board.restore(0), 0);
        is("the other slot stays", board.restore(1), 6);
        is("the other slot stays", board.ofAct(0, 1), 60);
    }

    private static void saveReturns() {
        sentence("Promise 29", "`slot`: 0 or 1");
        BeatSlugs board = boardOf(1, 2);
        is("0", board.save(0), 2);
        board.drop(0);
        is("1", board.save(1), 1);
        is("0", board.restore(0), 2);
        is("1", board.restore(1), 1);

        sentence("Promise 29", "Returns how many slugs there are");
        for (int slugs = 0; slugs <= 24; slugs++) {
            is(slugs + " slugs", boardOfAlike(slugs, 5).save(slugs & 1), slugs);
        }

        sentence("Promise 29", "BAD_VALUE if there is no such slot");
        all(BAD_VALUE, board.save(2), board.save(-1), board.save(3), board.save(FAR), board.save(BELOW));
    }

    private static void restore() {
        sentence("Promise 30", "Restores what was saved last in a slot, which keeps it");
        for (int kind = 0; kind < 12; kind++) {
            BeatSlugs changed = boardOf(30, 30, -40, 50);
            changed.trim(0, 2);
            List<Integer> saved = view(changed);
            changed.save(1);
            for (int turn = 0; turn < 2; turn++) {
                yes("change " + kind, change(changed, kind) >= 0);
                is("restore after the change " + kind, changed.restore(1), 4);
                yes("as saved after the change " + kind, view(changed).equals(saved));
            }
        }
        BeatSlugs board = boardOf(10, -20, 30);
        board.save(1);
        board.slug(0, 5, 0);
        board.slug(0, 5, 0);
        board.slug(0, 5, 0);
        board.restore(1);
        List<Integer> saved = view(board);
        board.save(0);
        board.drop(0);
        board.save(0);
        is("saved last", board.restore(0), 2);
        is("the other slot", board.restore(1), 3);
        is("undo of restore", board.undo(), 5);
        is("undo of restore", board.count(0), 6);
        is("it is kept after undo", board.restore(1), 3);
        yes("as saved", view(board).equals(saved));
    }

    private static void restoreReturns() {
        sentence("Promise 30", "`slot`: 0 or 1");
        BeatSlugs board = boardOf(1, 2);
        board.save(0);
        is("0", board.restore(0), 2);
        board.save(1);
        is("1", board.restore(1), 2);

        sentence("Promise 30", "Returns how many slugs there are then");
        BeatSlugs full = boardOfAlike(24, 5);
        full.save(1);
        for (int slug = 0; slug < 24; slug++) {
            full.drop(slug);
        }
        full.save(0);
        is("24", full.restore(1), 24);
        is("none", full.restore(0), 0);
        is("24 again", full.restore(1), 24);

        sentence("Promise 30", "BAD_VALUE if there is no such slot");
        all(BAD_VALUE, board.restore(2), board.restore(-1), board.restore(3), board.restore(FAR), board.restore(BELOW));

        sentence("Promise 30", "NOT_POSSIBLE if nothing was saved in it");
        BeatSlugs unsaved = boardOf(5);
        all(NOT_POSSIBLE, unsaved.restore(0), unsaved.restore(1));
        unsaved.save(1);
        is("only in the other one", unsaved.restore(0), NOT_POSSIBLE);
        is("in this one", unsaved.restore(1), 1);
        unsaved.save(3);
        is("still only in the other one", unsaved.restore(0), NOT_POSSIBLE);
        BeatSlugs empty = new BeatSlugs();
        empty.save(0);
        is("an empty board was saved", empty.restore(0), 0);
    }
}
