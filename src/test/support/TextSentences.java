/** "Texts", and the promises 24 to 27. */
final class TextSentences extends Sentences {
    private static final String ORDERS = "snmxtf";
    private static final String DIGITS = "0123456789";

    static void run() {
        most80();
        orders();
        grammarOfSlugs();
        grammarOfPairs();
        grammarOfActs();
        ordersAtTheEnd();
        ordersNeed();
        ordersMoveAndSwap();
        ordersTrim();
        ordersFit();
        digitsAndNumbers();
        firstFault();
        above99();
        endsTooEarly();
        constants();
        put();
        putCharacters();
        putErrors();
        wipe();
        fault();
        carryOut();
        carryOutIsOneChange();
        carryOutReturns();
    }

    private static int faultOf(String text) {
        BeatSlugs board = new BeatSlugs();
        write(board, text);
        return board.fault();
    }

    /** Behind a text without a fault so far, each character from 33 to 126: only some can stand there. */
    private static void behind(String text, String allowed, boolean whole) {
        is("\"" + text + "\"", faultOf(text), whole ? NONE : text.length());
        for (char sign = 33; sign <= 126; sign++) {
            int fault = faultOf(text + sign);
            boolean stands = fault == NONE || fault == text.length() + 1;
            yes("\"" + text + sign + "\" has the fault " + fault, stands == allowed.indexOf(sign) >= 0
                && (stands || fault == text.length()));
        }
    }

    private static void most80() {
        sentence("Texts", "The pad is a text of at most 80 characters, a row of orders");
        String whole = "f1;".repeat(26) + "f1";
        is("80 characters", faultOf(whole), NONE);
        is("80 characters, the last one is a \";\"", faultOf("f1;".repeat(25) + "s10!;"), 80);
        is("80 characters, the last one is a fault", faultOf("f1;".repeat(26) + "f!"), 79);
        is("80 characters, the last order is a long one", faultOf("f1;".repeat(25) + "n1>22"), NONE);
        is("80 characters, the last order is too short", faultOf("f1;".repeat(25) + "s10;n"), 80);
        is("80 characters, 24 slugs", carried("s1;".repeat(24) + "f0;f0;s9"), 24);
        BeatSlugs board = new BeatSlugs();
        write(board, whole);
        is("the 81st", board.put(packed("1")), TOO_MANY);
        is("the text as it was", board.fault(), NONE);
    }

    private static int carried(String text) {
        BeatSlugs board = new BeatSlugs();
        board.target(0, 1);
        write(board, text);
        return board.carryOut();
    }

    private static void orders() {
        sentence("Texts", "text = order { \";\" order }");
        behind("", ORDERS, false);
        behind("s5;", ORDERS, false);
        behind("f0;n1>2;", ORDERS, false);
        behind("f0;n1>2;m3@4;x5~6;t7-8;s9!", ";", true);
        String[] texts = {"s0", "n0>1", "m0@1", "x0~1", "t0-1", "f0"};
        for (String first : texts) {
            for (String second : texts) {
                is(first + ";" + second, faultOf(first + ";" + second), NONE);
                is(first + second, faultOf(first + second), first.length());
                is(first + ";;" + second, faultOf(first + ";;" + second), first.length() + 1);
                is(";" + second, faultOf(";" + second), 0);
            }
        }
    }

    private static void grammarOfSlugs() {
        sentence("Texts", "\"s\" number [ \"!\" ]");
        behind("s", DIGITS, false);
        behind("s0", "!;", true);
        behind("s0!", ";", true);
        for (int number = 1; number <= 9; number++) {
            behind("s" + number, DIGITS + "!;", true);
            behind("s" + number + "!", ";", true);
        }
        for (int number = 10; number <= 99; number++) {
            behind("s" + number, "!;", true);
        }
        behind("s99!", ";", true);
    }

    private static void grammarOfPairs() {
        pair("\"n\" number \">\" number", "n", ">");
        pair("\"m\" number \"@\" number", "m", "@");
        pair("\"x\" number \"~\" number", "x", "~");
        pair("\"t\" number \"-\" number", "t", "-");
    }

    private static void pair(String words, String kind, String between) {
        sentence("Texts", words);
        behind(kind, DIGITS, false);
        behind(kind + "0", between, false);
        behind(kind + "1", DIGITS + between, false);
        behind(kind + "9", DIGITS + between, false);
        behind(kind + "10", between, false);
        behind(kind + "99", between, false);
        for (String first : new String[] {"0", "1", "9", "10", "99"}) {
            String half = kind + first + between;
            behind(half, DIGITS, false);
            behind(half + "0", ";", true);
            behind(half + "1", DIGITS + ";", true);
            behind(half + "9", DIGITS + ";", true);
            behind(half + "10", ";", true);
            behind(half + "99", ";", true);
        }
    }

    private static void grammarOfActs() {
        sentence("Texts", "\"f\" digit");
        behind("f", DIGITS, false);
        for (int digit = 0; digit <= 9; digit++) {
            behind("f" + digit, ";", true);
        }
    }

    private static void ordersAtTheEnd() {
        sentence("Texts", "\"s\": slug() at the end, with its beats, a turn with \"!\"");
        BeatSlugs board = boardOf(5, 6);
        write(board, "s1;s99!;s20");
        is("all", board.carryOut(), 3);
        inRow("at the end", board, 0, 1, 2, 3, 4);
        is("1", board.of(2, 1), 1);
        is("99", board.of(3, 1), 99);
        is("20", board.of(4, 1), 20);
        is("only one is a turn", board.of(2, 3) * 100 + board.of(3, 3) * 10 + board.of(4, 3), 10);
        write(board, "s0");
        is("0 beats are refused", board.carryOut(), 0);
        write(board, "s0!;s5");
        is("0 beats are refused, nothing behind it", board.carryOut(), 0);
        is("as many as before", board.count(0), 31);
    }

    private static void ordersNeed() {
        sentence("Texts", "\"n\": need(): the first slug needs the second one");
        BeatSlugs board = boardOfAlike(24, 5);
        write(board, "n23>0;n1>0;n23>22");
        is("all", board.carryOut(), 3);
        is("needs of 23", board.of(23, 4), 1 + (1 << 22));
        is("needs of 1", board.of(1, 4), 1);
        write(board, "n1>0");
        is("it does not need it any more", board.carryOut(), 1);
        is("needs of 1", board.of(1, 4), 0);
        for (String refused : new String[] {"n0>1", "n24>0", "n23>24", "n0>0", "n99>99", "n0>99", "n32>0", "n23>32"}) {
            write(board, refused + ";n2>1");
            is(refused, board.carryOut(), 0);
        }
        is("nothing behind those that are refused", board.of(2, 4), 0);
    }

    private static void ordersMoveAndSwap() {
        sentence("Texts", "\"m\": move() to a place");
        BeatSlugs board = boardOfAlike(24, 5);
        write(board, "m0@23;m23@0;m5@5");
        is("all", board.carryOut(), 3);
        is("to the last place", board.of(0, 0), 23);
        is("to the first place", board.of(23, 0), 0);
        for (String refused : new String[] {"m0@24", "m24@0", "m99@99", "m32@0", "m0@32"}) {
            write(board, refused + ";m1@0");
            is(refused, board.carryOut(), 0);
        }
        is("nothing behind those that are refused", board.of(23, 0), 0);

        sentence("Texts", "\"x\": swap()");
        BeatSlugs other = boardOfAlike(24, 5);
        write(other, "x0~23;x22~1");
        is("all", other.carryOut(), 2);
        is("the first place", other.at(0) * 100 + other.at(1), 2322);
        is("the last place", other.at(23) * 100 + other.at(22), 1);
        for (String refused : new String[] {"x0~0", "x0~24", "x24~0", "x99~99", "x32~1", "x0~33"}) {
            write(other, refused + ";x2~3");
            is(refused, other.carryOut(), 0);
        }
        is("nothing behind those that are refused", other.of(2, 0), 2);
    }

    private static void ordersTrim() {
        sentence("Texts", "\"t\": trim() by so many beats");
        BeatSlugs board = boardOf(99, 99, 10);
        board.set(BeatSlugs.TRIM, 90);
        write(board, "t0-89;t1-1;t2-9");
        is("all", board.carryOut(), 3);
        is("by 89", board.of(0, 2), 10);
        is("by 1", board.of(1, 2), 98);
        is("by 9", board.of(2, 2), 1);
        for (String refused : new String[] {"t1-0", "t1-99", "t1-98", "t0-1", "t2-1", "t3-1", "t99-1", "t33-1"}) {
            write(board, refused + ";t1-1");
            is(refused, board.carryOut(), 0);
        }
        is("nothing behind those that are refused", board.of(1, 2), 98);
    }

    private static void ordersFit() {
        sentence("Texts", "\"f\": fit() an act");
        BeatSlugs board = boardOfAlike(10, -99);
        write(board, "f0;f9");
        is("all", board.carryOut(), 2);
        for (int act = 0; act < 10; act++) {
            is("beats of the act " + act, board.ofAct(act, 0), act == 0 || act == 9 ? 60 : 99);
        }
        board.target(3, 1);
        board.drop(9);
        for (String refused : new String[] {"f3", "f9"}) {
            write(board, refused + ";f1");
            is(refused, board.carryOut(), 0);
        }
        is("nothing behind those that are refused", board.ofAct(1, 0), 99);
    }

    private static void digitsAndNumbers() {
        sentence("Texts", "A digit is 0 to 9, a number 0 to 99, without leading zeros");
        for (int number = 0; number <= 99; number++) {
            is("s" + number, faultOf("s" + number), NONE);
            is("m" + number, faultOf("m" + number + "@" + number), NONE);
            is("f" + number, faultOf("f" + number), number < 10 ? NONE : 2);
            is("s0" + number, faultOf("s0" + number), 2);
            is("n0" + number, faultOf("n0" + number + ">1"), 2);
            is("t1-0" + number, faultOf("t1-0" + number), 4);
            is("f0" + number, faultOf("f0" + number), 2);
        }
        for (int beats = 1; beats <= 99; beats++) {
            BeatSlugs board = new BeatSlugs();
            write(board, "s" + beats);
            is("s" + beats, board.carryOut(), 1);
            is("s" + beats, board.of(0, 1), beats);
        }
        is("a sign ahead of a number", faultOf("s+5"), 1);
        is("a sign ahead of a number", faultOf("s-5"), 1);
    }

    private static void firstFault() {
        sentence("Texts", "The fault is the index of the first character that cannot stand at its place when the text is read from left to right");
        Object[][] bad = {{"a", 0}, {"S5", 0}, {"5", 0}, {"s!", 1}, {"s5!!", 3}, {"n>1", 1}, {"n1@2", 2}, {"m1>2", 2},
            {"x1~2~3", 4}, {"x1-2", 2}, {"t1-2!", 4}, {"t1~2", 2}, {"t-1", 1}, {"fa", 1}, {"f1!", 2}, {"s1;s2;q", 6},
            {"s5?;q", 2}, {"q;s5;q", 0}, {"n1>2;;;", 5}, {"n1<2>3;", 2}, {"s1!2", 3}, {"sn", 1}, {"s1;F1", 3}};
        for (Object[] row : bad) {
            is((String) row[0], faultOf((String) row[0]), (Integer) row[1]);
        }
        is("orders that will be refused are no fault", faultOf("s0;n5>5;m9@9;x1~1;t3-0;f9"), NONE);
    }

    private static void above99() {
        sentence("Texts", "(also of a digit by which a number would be above 99)");
        Object[][] bad = {{"s100", 3}, {"s990", 3}, {"s999!", 3}, {"n100>1", 3}, {"n1>100", 5}, {"m10@100", 6}, {"m123@1", 3},
            {"x1~123", 5}, {"t12-345", 6}, {"s1000000000", 3}, {"s4294967301", 3}};
        for (Object[] row : bad) {
            is((String) row[0], faultOf((String) row[0]), (Integer) row[1]);
        }
    }

    private static void endsTooEarly() {
        sentence("Texts", "if there is none and the text ends too early (also if it is empty), it is the length of the text");
        is("empty", new BeatSlugs().fault(), 0);
        String whole = "s10!;n12>3;m4@56;x7~89;t10-1;f3";
        String ends = "s1 s10 s10! s10!;n12>3 s10!;n12>3;m4@5 s10!;n12>3;m4@56 s10!;n12>3;m4@56;x7~8 "
            + "s10!;n12>3;m4@56;x7~89 s10!;n12>3;m4@56;x7~89;t10-1 ";
        for (int length = 0; length < whole.length(); length++) {
            String text = whole.substring(0, length);
            boolean isWhole = length > 0 && (" " + ends).contains(" " + text + " ");
            is("\"" + text + "\"", faultOf(text), isWhole ? NONE : length);
        }
        is(whole, faultOf(whole), NONE);
    }

    private static void constants() {
        sentence("Texts", "`NO_SUCH = -1, BAD_VALUE = -2, BAD_TEXT = -3, TOO_MANY = -4, NOT_POSSIBLE = -5, NONE = -6`");
        int[] codes = {BeatSlugs.NO_SUCH, BeatSlugs.BAD_VALUE, BeatSlugs.BAD_TEXT, BeatSlugs.TOO_MANY, BeatSlugs.NOT_POSSIBLE,
            BeatSlugs.NONE};
        for (int code = 0; code < codes.length; code++) {
            is("code " + code, codes[code], -1 - code);
        }
        sentence("Texts", "`PAGE = 0, SLACK = 1, TRIM = 2`: Settings");
        is("PAGE", BeatSlugs.PAGE, 0);
        is("SLACK", BeatSlugs.SLACK, 1);
        is("TRIM", BeatSlugs.TRIM, 2);
    }

    private static void put() {
        sentence("Promise 24", "Appends characters to the pad");
        BeatSlugs board = new BeatSlugs();
        board.put(packed("s1"));
        board.put(packed("0;s2"));
        board.put(packed("5!"));
        is("all of them", board.carryOut(), 2);
        is("one behind the other", board.of(0, 1) * 100 + board.of(1, 1), 1025);

        sentence("Promise 24", "its lowest 8 bits are the last character, the next 8 bits the one before, and so on");
        is("'s' and '5'", board.put('s' << 8 | '5'), 2);
        is("in this order", board.fault(), NONE);
        board.wipe();
        board.put(0x7331323B6632313BL);
        is("eight of them: s12;f21;", board.fault(), 6);

        sentence("Promise 24", "`characters`: 1 to 8 characters");
        for (int length = 1; length <= 8; length++) {
            board.wipe();
            is(length + " characters", board.put(packed("~!~!~!~!".substring(0, length))), length);
        }

        sentence("Promise 24", "Returns the length of the pad then");
        BeatSlugs other = new BeatSlugs();
        is("one", other.put(33L), 1);
        is("and another one", other.put(126L), 2);
        is("and eight", other.put(packed("abcdefgh")), 10);
        is("counted, too", other.count(10), 10);
    }

    private static void putCharacters() {
        sentence("Promise 24", "8 bits that are 0 mean that there are no more characters, and everything above them has to be 0, too");
        BeatSlugs board = new BeatSlugs();
        for (int length = 0; length < 8; length++) {
            long characters = packed("AAAAAAAA".substring(0, length));
            for (int bit = 8 * length + 8; bit < 64; bit++) {
                is("bit " + bit + " above " + length + " characters", board.put(characters | 1L << bit), BAD_VALUE);
            }
        }
        is("nothing was written", board.count(10), 0);
    }

    private static void putErrors() {
        sentence("Promise 24", "BAD_VALUE if there is no character, a code is not 33 to 126, or a bit above 8 bits that are 0 is not 0");
        BeatSlugs board = new BeatSlugs();
        is("no character", board.put(0L), BAD_VALUE);
        for (int at = 0; at < 8; at++) {
            for (int code = 0; code <= 255; code++) {
                long others = packed("AAAAAAAA") & ~(255L << 8 * at);
                boolean good = code >= 33 && code <= 126 || code == 0 && at == 7;
                int due = !good ? BAD_VALUE : code == 0 ? 7 : 8;
                is("the code " + code + " at " + at, new BeatSlugs().put(others | (long) code << 8 * at), due);
            }
        }
        all(BAD_VALUE, board.put(0x4100L), board.put(0x410041L), board.put(-1L), board.put(Long.MIN_VALUE), board.put(Long.MAX_VALUE));

        sentence("Promise 24", "TOO_MANY if the pad would be longer than 80");
        for (int length = 72; length <= 80; length++) {
            for (int more = 1; more <= 8; more++) {
                boolean tooLong = length + more > 80;
                BeatSlugs full = new BeatSlugs();
                write(full, "a".repeat(length));
                is(length + " and " + more, full.put(packed("b".repeat(more))), tooLong ? TOO_MANY : length + more);
                is(length + " and " + more + " then", full.count(10), tooLong ? length : length + more);
            }
        }
    }

    private static void wipe() {
        sentence("Promise 25", "Empties the pad, and returns the length that it had");
        BeatSlugs board = new BeatSlugs();
        is("empty", board.wipe(), 0);
        write(board, "s".repeat(80));
        is("full", board.wipe(), 80);
        is("its length then", board.count(10), 0);
        is("its fault then", board.fault(), 0);
        is("once more", board.wipe(), 0);
        is("room again", board.put(packed("s5")), 2);
        is("nothing is left of what there was", board.fault(), NONE);
        is("no change", board.count(11), 0);
    }

    private static void fault() {
        sentence("Promise 26", "Returns the fault of the pad, NONE if there is none");
        BeatSlugs board = new BeatSlugs();
        is("empty", board.fault(), 0);
        board.put(packed("s"));
        is("s", board.fault(), 1);
        board.put(packed("5"));
        is("s5", board.fault(), NONE);
        is("s5, asked again", board.fault(), NONE);
        board.put(packed(";"));
        is("s5;", board.fault(), 3);
        board.put(packed("f;"));
        is("s5;f;", board.fault(), 4);
        is("the length", board.count(10), 5);
        is("nothing is carried out", board.count(0), 0);
    }

    private static void carryOut() {
        sentence("Promise 27", "Carries the orders of the pad out, one after the other, up to the first one that returns an error, and empties the pad");
        BeatSlugs board = new BeatSlugs();
        write(board, "s20;s30;s70!;n2>0;m1@0;x1~0;t1-15;f0");
        is("all", board.carryOut(), 8);
        inRow("all", board, 0, 1, 2);
        is("beats", board.of(0, 2) * 10000 + board.of(1, 2) * 100 + board.of(2, 2), 101535);
        is("emptied", board.count(10), 0);
        write(board, "s7;n0>2;s8");
        is("up to an error", board.carryOut(), 1);
        is("ahead of it", board.of(3, 1), 7);
        is("behind it", board.of(4, 1), NO_SUCH);
        is("emptied", board.count(10), 0);
        is("empty: a fault", board.carryOut(), BAD_TEXT);
        write(board, "m3@0;m3@3;n0>3");
        is("one on what the other one left", board.carryOut(), 2);
    }

    private static void carryOutIsOneChange() {
        sentence("Promise 27", "This is a change (one, with all of them; also if none is carried out)");
        BeatSlugs board = boardOf(10, 20);
        write(board, "s1;s2;s3;s4;s5;s6;s7;s8");
        is("eight orders", board.carryOut(), 8);
        is("one change", board.count(11), 3);
        write(board, "n0>0;s9");
        is("none", board.carryOut(), 0);
        is("one change", board.count(11), 4);
        is("undo of none", board.undo(), 3);
        is("as it was", board.count(0), 1023);
        is("undo of all", board.undo(), 2);
        is("as it was", board.count(0), 3);
        is("the pad stays empty", board.count(10), 0);
    }

    private static void carryOutReturns() {
        sentence("Promise 27", "Returns how many orders were carried out");
        is("the one that returns an error is not counted", carried("s5;s0;s5"), 1);
        is("none", carried("f0"), 0);
        is("one", carried("s5"), 1);
        is("27, the most", carried("s1" + ";f0".repeat(26)), 27);
        is("24 slugs are all", carried("s1;".repeat(25) + "s2"), 24);

        sentence("Promise 27", "BAD_TEXT if the pad has a fault (then it stays)");
        BeatSlugs board = new BeatSlugs();
        is("empty", board.carryOut(), BAD_TEXT);
        String[] texts = {"s5;", "s5;q", "s5;s", "s5s6", "q;s5", "s100"};
        for (String text : texts) {
            write(board, text);
            int fault = board.fault();
            is(text, board.carryOut(), BAD_TEXT);
            is(text + " stays", board.count(10), text.length());
            is(text + " stays", board.fault(), fault);
        }
        is("nothing was carried out", board.count(0), 0);
        is("nothing was recorded", board.count(11), 0);
    }
}
