/** TEXTS and promises 1 to 5, sentence by sentence: what just may stand on the tape and what just may not. */
public final class TextBoundsTest {
    private static final Check CHECK = new Check();
    private static final String SEVEN_STOPS = "stop;".repeat(7);
    private static final String FOUR_ACTS = "set a 1 add b 2 sub c 3 write d ";

    public static void main(String[] args) {
        newObject();
        wholeTape();
        keptBytes();
        emptyTexts();
        everyByteAlone();
        everyByteBehindStop();
        letters();
        words();
        numbers();
        blockNumbers();
        digits();
        blanks();
        signs();
        endsTooEarly();
        fourActs();
        eightBlocks();
        missingBlocks();
        firstFaultCounts();
        faultNumbers();
        CHECK.finish();
    }

    private static KnownTurns typed(String text) {
        KnownTurns x = new KnownTurns();
        Check.type(x, text);
        return x;
    }

    private static void sound(String text, int blocks) {
        KnownTurns x = typed(text);
        CHECK.due("text() of '" + text + "'", x.text(), blocks);
        CHECK.due("fault() of '" + text + "'", x.fault(), 0);
        CHECK.due("program(0,0) of '" + text + "'", x.program(0, 0), blocks);
        CHECK.due("program(1,0) of '" + text + "'", x.program(1, 0), blocks);
        CHECK.due("count(1) behind '" + text + "'", x.count(1), 0);
    }

    private static void faulty(String text, int fault, int position) {
        KnownTurns x = typed(text);
        CHECK.due("text() of '" + text + "'", x.text(), -10 - position);
        CHECK.due("fault() of '" + text + "'", x.fault(), fault);
        CHECK.due("program(0,0) of '" + text + "'", x.program(0, 0), 0);
        CHECK.due("program(1,0) of '" + text + "'", x.program(1, 0), 0);
        CHECK.due("count(1) behind '" + text + "'", x.count(1), 0);
    }

    /** "Creates an object whose programs have no blocks. The tape is empty, both images are empty." */
    private static void newObject() {
        CHECK.due("program(0,0)", new KnownTurns().program(0, 0), 0);
        CHECK.due("program(1,0)", new KnownTurns().program(1, 0), 0);
        CHECK.due("count(1)", new KnownTurns().count(1), 0);
        CHECK.due("count(0)", new KnownTurns().count(0), 0);
        CHECK.due("keep(0)", new KnownTurns().keep(0), 0);
        CHECK.due("keep(1)", new KnownTurns().keep(1), 0);
        CHECK.due("feed(0)", new KnownTurns().feed(0), 1);
        CHECK.due("text()", new KnownTurns().text(), 0);
    }

    /** "A program is read from a tape of at most 200 bytes"; "FULL if it has 200 bytes". */
    private static void wholeTape() {
        String whole = " ".repeat(195) + "stop;";
        KnownTurns x = new KnownTurns();
        for (int i = 0; i < 200; i++) {
            CHECK.due("feed of byte " + i, x.feed(whole.charAt(i)), i + 1);
        }
        CHECK.due("feed of one too many", x.feed(';'), -3);
        CHECK.due("feed of one too many", x.feed(0), -3);
        CHECK.due("feed of one too many", x.feed(127), -3);
        CHECK.due("count(1)", x.count(1), 200);
        CHECK.due("text()", x.text(), 1);
        CHECK.due("feed of an empty tape", x.feed('s'), 1);
        sound("stop;" + " ".repeat(195), 1);
        sound(" ".repeat(200), 0);
        faulty(" ".repeat(196) + "stop", 2, 200);
        faulty("stop" + " ".repeat(196), 2, 200);
        faulty("go 1;" + " ".repeat(195), 6, 200);
        faulty(" ".repeat(199) + "?", 1, 199);
        faulty(" ".repeat(199) + "s", 2, 199);
        String dense = "set a 10 add b 20 sub c 30 move d a if a<b 7 7;";
        String last = "set a 10 add b 20 sub c 30 if a=9 0 7;" + SEVEN_STOPS;
        String full = " ".repeat(200 - dense.length() - last.length() + 5) + dense + last.substring(0, last.length() - 5);
        CHECK.due("the length of a full text", full.length(), 200);
        sound(full, 8);
        KnownTurns cut = typed(full);
        CHECK.due("end(199)", cut.end(199), 200);
        CHECK.due("text() without the last byte", cut.text(), -10 - 199);
    }

    /** "Keeps only the first n bytes of the tape." */
    private static void keptBytes() {
        String text = "go 0;stop;set a 1 stop;";
        int[][] ends = {{0, 0}, {4, -14}, {5, 1}, {6, -15}, {9, -19}, {10, 2}, {22, -32}, {23, 3}};
        for (int[] end : ends) {
            KnownTurns x = typed(text);
            CHECK.due("end(" + end[0] + ")", x.end(end[0]), text.length());
            CHECK.due("count(1) behind end(" + end[0] + ")", x.count(1), end[0]);
            CHECK.due("end(" + (end[0] + 1) + ")", x.end(end[0] + 1), -1);
            CHECK.due("text() behind end(" + end[0] + ")", x.text(), end[1]);
        }
        // What was cut off does not come back.
        KnownTurns x = typed("stop;stop;");
        x.end(4);
        CHECK.due("feed(' ')", x.feed(' '), 5);
        CHECK.due("text()", x.text(), -15);
        CHECK.due("end(0) of an empty tape", x.end(0), 0);
        CHECK.due("end(1) of an empty tape", x.end(1), -1);
    }

    /** "(0 for an empty text)", "in place of the present one". */
    private static void emptyTexts() {
        for (int blanks : new int[] {0, 1, 199, 200}) {
            KnownTurns x = Check.of("set a 1 go 0;");
            x.keep(1);
            Check.type(x, " ".repeat(blanks));
            CHECK.due("text() of blanks", x.text(), 0);
            CHECK.due("fault()", x.fault(), 0);
            CHECK.due("program(0,0)", x.program(0, 0), 0);
            CHECK.due("program(1,0)", x.program(1, 0), 0);
            CHECK.due("count(0)", x.count(0), 0);
            CHECK.due("count(1)", x.count(1), 0);
            CHECK.due("block(0,0,0)", x.block(0, 0, 0), -1);
        }
        // A shorter program leaves nothing of a longer one.
        KnownTurns x = Check.of(FOUR_ACTS + "if a<b 1 1;" + "stop;".repeat(7));
        Check.type(x, "go 0;");
        CHECK.due("text()", x.text(), 1);
        CHECK.due("block(0,0,0)", x.block(0, 0, 0), 0);
        CHECK.due("block(0,0,3)", x.block(0, 0, 3), -4);
        CHECK.due("block(0,1,0)", x.block(0, 1, 0), -1);
        CHECK.due("block(1,1,0)", x.block(1, 1, 0), -1);
        CHECK.due("act(0,0,0,0)", x.act(0, 0, 0, 0), -4);
    }

    private static boolean isLetter(int c) {
        return c >= 97 && c <= 122;
    }

    private static boolean isDigit(int c) {
        return c >= 48 && c <= 57;
    }

    private static boolean isSign(int c) {
        return c == 59 || c == 60 || c == 61;
    }

    /** "A token is a longest sequence of letters a to z, .. of digits .., or one of the signs ; < and =. Blanks (32) ..". */
    private static void everyByteAlone() {
        for (int c = 0; c < 128; c++) {
            String text = String.valueOf((char) c);
            if (c == 32) {
                sound(text, 0);
            } else {
                faulty(text, isLetter(c) || isDigit(c) || isSign(c) ? 2 : 1, 0);
            }
        }
    }

    private static void everyByteBehindStop() {
        for (int c = 0; c < 128; c++) {
            String text = "stop" + (char) c;
            if (c == ';') {
                sound(text, 1);
            } else if (c == 32) {
                faulty(text, 2, 5);
            } else if (isLetter(c)) {
                faulty(text, 2, 0);
            } else {
                faulty(text, isDigit(c) || isSign(c) ? 2 : 1, 4);
            }
        }
    }

    private static void soundIf(boolean isSound, String text, int fault, int position) {
        if (isSound) {
            sound(text, 1);
        } else {
            faulty(text, fault, position);
        }
    }

    /** "where v is a letter a to d": e to z and two letters cannot stand there. */
    private static void letters() {
        for (char c = 'a'; c <= 'z'; c++) {
            boolean isVariable = c <= 'd';
            soundIf(isVariable, "set " + c + " 1 stop;", 2, 4);
            soundIf(isVariable, "add " + c + " 1 stop;", 2, 4);
            soundIf(isVariable, "sub " + c + " 1 stop;", 2, 4);
            soundIf(isVariable, "move " + c + " a stop;", 2, 5);
            soundIf(isVariable, "move a " + c + " stop;", 2, 7);
            soundIf(isVariable, "read " + c + " stop;", 2, 5);
            soundIf(isVariable, "write " + c + " stop;", 2, 6);
            soundIf(isVariable, "if " + c + "<1 0 0;", 2, 3);
            soundIf(isVariable, "if a<" + c + " 0 0;", 2, 5);
            soundIf(isVariable, "if a=" + c + " 0 0;", 2, 5);
            faulty("read a" + c + " stop;", 2, 5);
        }
        faulty("read A stop;", 1, 5);
        faulty("read ` stop;", 1, 5);
        faulty("read { stop;", 1, 5);
    }

    /** Words of the grammar, and the same with a letter too many or too few. */
    private static void words() {
        String[] acts = {"set a 1", "add a 1", "sub a 1", "move a a", "read a", "write a"};
        for (String act : acts) {
            sound(act + " stop;", 1);
            faulty(act.substring(1) + " stop;", 2, 0);
            faulty("x" + act + " stop;", 2, 0);
            faulty(act.replaceFirst(" ", "x ") + " stop;", 2, 0);
            faulty(act.replaceFirst(". ", " ") + " stop;", 2, 0);
            faulty(act, 2, act.length());
        }
        for (String word : new String[] {"set", "add", "sub", "move", "read", "write", "stop", "go", "if"}) {
            for (int i = 0; i < word.length(); i++) {
                faulty(word.substring(0, i) + "q" + word.substring(i + 1), 2, 0);
                faulty(word.substring(0, i) + "q" + word.substring(i + 1) + " a 1 stop;", 2, 0);
            }
        }
        faulty("sto;", 2, 0);
        faulty("top;", 2, 0);
        faulty("stops;", 2, 0);
        faulty("g 0;", 2, 0);
        faulty("goo 0;", 2, 0);
        faulty("i a<1 0 0;", 2, 0);
        faulty("iff a<1 0 0;", 2, 0);
        faulty("Stop;", 1, 0);
        faulty("sTop;", 2, 0);
    }

    /** "n a number from 0 to 50"; "3: a number is out of its range (the position is that of its first byte)". */
    private static void numbers() {
        for (int n = 0; n < 100; n++) {
            for (String form : n < 10 ? new String[] {"" + n, "0" + n} : new String[] {"" + n}) {
                soundIf(n <= 50, "set a " + form + " stop;", 3, 6);
                soundIf(n <= 50, "add a  " + form + " stop;", 3, 7);
                soundIf(n <= 50, "sub a" + form + " stop;", 3, 5);
                soundIf(n <= 50, "if a<" + form + " 0 0;", 3, 5);
                soundIf(n <= 50, "if a= " + form + " 0 0;", 3, 6);
            }
        }
        CHECK.due("set a 50", Check.of("set a 50 stop;").act(0, 0, 0, 2), 50);
        CHECK.due("set a 0", Check.of("set a 0 stop;").act(0, 0, 0, 2), 0);
        CHECK.due("set a 09", Check.of("set a 09 stop;").act(0, 0, 0, 2), 9);
        CHECK.due("if a<50", Check.of("if a<50 0 0;").block(0, 0, 6), 50);
        CHECK.due("if a<0", Check.of("if a<0 0 0;").block(0, 0, 6), 0);
    }

    /** "b the number of a block, 0 to 7". */
    private static void blockNumbers() {
        for (int b = 0; b < 100; b++) {
            for (String form : b < 10 ? new String[] {"" + b, "0" + b} : new String[] {"" + b}) {
                if (b <= 7) {
                    sound("go " + form + ";" + SEVEN_STOPS, 8);
                    sound("if a<1 " + form + " 0;" + SEVEN_STOPS, 8);
                    sound("if a<1 0 " + form + ";" + SEVEN_STOPS, 8);
                } else {
                    faulty("go " + form + ";" + SEVEN_STOPS, 3, 3);
                    faulty("if a<1 " + form + " 0;" + SEVEN_STOPS, 3, 7);
                    faulty("if a<1 0 " + form + ";" + SEVEN_STOPS, 3, 9);
                }
            }
        }
        CHECK.due("go 7", Check.of("go 7;" + SEVEN_STOPS).block(0, 0, 2), 7);
        CHECK.due("go 07", Check.of("go 07;" + SEVEN_STOPS).block(0, 0, 2), 7);
    }

    /** "1: .. a number of more than 2 digits (the position is that of the first byte)", wherever it stands. */
    private static void digits() {
        for (String number : new String[] {"000", "007", "050", "100", "999", "0000", "1234567890", "0".repeat(100)}) {
            faulty("set a " + number + " stop;", 1, 6);
            faulty("set " + number, 1, 4);
            faulty("go " + number + ";", 1, 3);
            faulty("if a<" + number, 1, 5);
            faulty("if a<1 " + number, 1, 7);
            faulty("if a<1 0 " + number, 1, 9);
            faulty("stop " + number, 1, 5);
            faulty(number, 1, 0);
        }
        faulty("4294967296", 1, 0);
        faulty("set a 4294967297 stop;", 1, 6);
        faulty("go 1000;" + SEVEN_STOPS, 1, 3);
        // Two digits where none may stand are a token, so it is another fault.
        faulty("set 99", 2, 4);
        faulty("99", 2, 0);
        faulty("stop 99", 2, 5);
    }

    private static void alike(String text, String other) {
        KnownTurns x = Check.of(text);
        KnownTurns y = Check.of(other);
        for (int b = 0; b < 3; b++) {
            for (int what = 0; what < 8; what++) {
                CHECK.due("block(0," + b + "," + what + ") of " + other, y.block(0, b, what), x.block(0, b, what));
            }
            for (int i = 0; i < 12; i++) {
                CHECK.due("act(0," + b + ",..) of " + other, y.act(0, b, i / 3, i % 3), x.act(0, b, i / 3, i % 3));
            }
        }
    }

    /** "Blanks (32) may stand before, between and after tokens; they are needed only between two words and between two numbers." */
    private static void blanks() {
        String text = "set a 1 add b 2 move c d go 1; if a < 5 1 0; write d if b = c 0 1;";
        alike(text, "set a1add b2move c d go1;if a<5 1 0;write d if b=c0 1;");
        alike(text, "  set  a  1  add  b  2  move  c  d  go  1  ;  if  a  <  5  1  0  ;  write  d  if  b  =  c  0  1  ;  ");
        faulty("seta 1 stop;", 2, 0);
        faulty("move ab stop;", 2, 5);
        faulty("set a 1 writeb stop;", 2, 8);
        faulty("write bstop;", 2, 6);
        faulty("if a<5 10;", 3, 7);
        faulty("if a<51 0;", 3, 5);
        faulty("if a<5 00;", 2, 9);
        faulty("if a<510;", 1, 5);
        faulty("s top;", 2, 0);
        faulty("set a 1 2 stop;", 2, 8);
        for (char c : new char[] {9, 10, 13, 0, 127}) {
            faulty("stop" + c + ";", 1, 4);
            faulty(c + "stop;", 1, 0);
            faulty("stop;" + c, 1, 5);
        }
    }

    /** Each place of the grammar takes its own sign alone. */
    private static void signs() {
        for (char c : new char[] {';', '<', '='}) {
            faulty("set " + c, 2, 4);
            faulty("set a " + c, 2, 6);
            faulty("go " + c, 2, 3);
            faulty("if " + c, 2, 3);
            faulty("if a<" + c, 2, 5);
            faulty("if a=1 " + c, 2, 7);
            faulty("if a=b 0 " + c, 2, 9);
            faulty("stop;" + c, 2, 5);
        }
        faulty("if 0 0;", 2, 3);
        faulty("if 5<a 0 0;", 2, 3);
        faulty("if a<1;", 2, 6);
        faulty("if a;1 0 0;", 2, 4);
        faulty("if a 1 0 0;", 2, 5);
        faulty("if a b 0 0;", 2, 5);
        faulty("stop<", 2, 4);
        faulty("go 0=", 2, 4);
        faulty("if a<1 0 0<", 2, 10);
        faulty("if a<=1 0 0;", 2, 5);
        faulty("if a==1 0 0;", 2, 5);
    }

    /** "or the text ends too early (.. the length of the text)", blanks at the end included. */
    private static void endsTooEarly() {
        String[][] texts = {{"set", " a", " 1", " move", " a", " b", " read", " c", " write", " d", " stop", ";"},
            {"stop", ";", " add", " a", " 1", " go", " 1", ";"}, {"sub", " d", " 50", " if", " a", " <", " b", " 0", " 0", ";"},
            {"if", " d", " =", " 1", " 0", " 0", ";"}};
        for (String[] tokens : texts) {
            StringBuilder text = new StringBuilder();
            for (String token : tokens) {
                text.append(token);
                if (!token.equals(";")) {
                    faulty(text.toString(), 2, text.length());
                    faulty(text + " ", 2, text.length() + 1);
                    faulty(text + "     ", 2, text.length() + 5);
                }
            }
            sound(text.toString(), tokens[1].equals(";") ? 2 : 1);
        }
    }

    /** "a block has at most 4 acts"; "5: .. a block has a fifth act (at its word)". */
    private static void fourActs() {
        sound(FOUR_ACTS + "stop;", 1);
        sound(FOUR_ACTS + "stop;" + FOUR_ACTS + "go 0;", 2);
        int at = FOUR_ACTS.length();
        for (String word : new String[] {"set", "add", "sub", "move", "read", "write"}) {
            faulty(FOUR_ACTS + word + " a 1 stop;", 5, at);
            faulty(FOUR_ACTS + "  " + word, 5, at + 2);
            faulty(FOUR_ACTS + word + "?", 5, at);
            faulty("stop;" + FOUR_ACTS + word, 5, at + 5);
            faulty(FOUR_ACTS + word + "x a 1 stop;", 2, at);
        }
        // What is no act in fifth place is no fifth act.
        faulty(FOUR_ACTS + "a", 2, at);
        faulty(FOUR_ACTS + ";", 2, at);
        faulty(FOUR_ACTS + "1", 2, at);
        faulty(FOUR_ACTS + "?", 1, at);
        faulty(FOUR_ACTS, 2, at);
        CHECK.due("four acts", Check.of(FOUR_ACTS + "stop;").block(0, 0, 0), 4);
        CHECK.due("the fourth act", Check.of(FOUR_ACTS + "stop;").act(0, 0, 3, 1), 3);
    }

    /** "at most 8 blocks"; "5: a ninth block begins (at its first token, if this is a sequence of letters, which ones does not matter)". */
    private static void eightBlocks() {
        String eight = SEVEN_STOPS + "go 7;";
        sound(SEVEN_STOPS, 7);
        sound(eight, 8);
        sound(eight + "   ", 8);
        for (String word : new String[] {"stop", "go", "if", "set", "write", "a", "e", "z", "abc", "stopp"}) {
            faulty(eight + word, 5, 40);
            faulty(eight + " " + word + ";", 5, 41);
            faulty(eight + word + "?", 5, 40);
        }
        for (String sign : new String[] {";", "<", "=", "0", "7", "99"}) {
            faulty(eight + sign, 2, 40);
            faulty(eight + "  " + sign, 2, 42);
        }
        faulty(eight + "000", 1, 40);
        faulty(eight + "?", 1, 40);
        faulty(eight + "Stop;", 1, 40);
        // Only in seventh place it is another fault.
        faulty(SEVEN_STOPS + "abc", 2, 35);
    }

    /** "6: everything was read, but an end names a block that does not exist (the position is the length of the text)". */
    private static void missingBlocks() {
        for (int blocks = 1; blocks <= 8; blocks++) {
            String before = "stop;".repeat(blocks - 1);
            int length = 5 * blocks;
            sound(before + "go " + (blocks - 1) + ";", blocks);
            if (blocks < 8) {
                faulty(before + "go " + blocks + ";", 6, length);
                faulty(before + "go " + blocks + ";   ", 6, length + 3);
                faulty(before + "go 7;", 6, length);
                faulty("go " + blocks + ";" + before, 6, length);
                faulty(before + "if a<1 " + blocks + " 0;", 6, length + 6);
                faulty(before + "if a<1 0 " + blocks + ";", 6, length + 6);
            }
            sound(before + "if a<1 0 " + (blocks - 1) + ";", blocks);
        }
    }

    /** "The text is read from left to right; .. The first fault that is met counts". */
    private static void firstFaultCounts() {
        faulty("go 5;?", 1, 5);
        faulty("go 5;stop", 2, 9);
        faulty("go 5;go 8;", 3, 8);
        faulty("go 5;" + FOUR_ACTS + "read a stop;", 5, 5 + FOUR_ACTS.length());
        faulty("set a 51?", 3, 6);
        faulty("set a 51 000", 3, 6);
        faulty("set e 51", 2, 4);
        faulty("set a ? 51", 1, 6);
        faulty("set ? 51", 1, 4);
        faulty("go 8 9", 3, 3);
        faulty("go 0 8", 2, 5);
        faulty("go 0 000", 1, 5);
        faulty("if e<51 8 8", 2, 3);
        faulty("if a<51 8 8", 3, 5);
        faulty("if a<1 8 000", 3, 7);
        faulty("if a<1 0 8?", 3, 9);
        faulty("foo 000", 2, 0);
        faulty("stop stop ?", 2, 5);
    }

    /** "Returns the number of the fault of the latest call of text()": "0 if it had none, or there was no such call". */
    private static void faultNumbers() {
        KnownTurns x = new KnownTurns();
        CHECK.due("fault() without a text()", x.fault(), 0);
        Check.type(x, "?");
        CHECK.due("fault() before text()", x.fault(), 0);
        String[] texts = {"?", "stop", "go 8;", SEVEN_STOPS + "stop;stop;", "go 1;", "stop;", "go 2;", ""};
        int[] faults = {1, 2, 3, 5, 6, 0, 6, 0};
        for (int i = 0; i < texts.length; i++) {
            x.end(0);
            Check.type(x, texts[i]);
            x.text();
            CHECK.due("fault() behind '" + texts[i] + "'", x.fault(), faults[i]);
            x.draw(i, 3);
            x.lead(0, 0, 0);
            x.feed(';');
            CHECK.due("fault() later", x.fault(), faults[i]);
        }
    }
}
