/** The boundary cases of promises 43 to 46, sentence by sentence. */
final class TextEdgesTest extends EdgeKit {
    private static final String FORM_OF_TEXT = "It consists of any number of requests without blanks: the digit of a node, a "
        + "colon, three hexadecimal digits for the identifier (000 to 7ff), a #, then either 0, 2, 4, 6 or 8 hexadecimal "
        + "digits (the bytes of a data frame) or R and a digit 0 to 4 (the length of a remote frame), and a semicolon.";
    private static final String FAULT = "The fault position of the text is the index, counted from 0, of the first byte with "
        + "which the text does not follow this form";
    /** Sixteen requests in 120 bytes: as long as a text can be. */
    private static final String LONGEST = "0:001#;1:002#;2:003#;3:004#R4;".repeat(4);

    public static void main(String[] args) {
        Edges.runAll(TextEdgesTest.class);
    }

    private static void fault(Check c, String text, int position) {
        c.due("'" + text + "'", withText(text).faultPosition(), position);
    }

    private static void follows(Check c, String text) {
        c.due("'" + text + "'", withText(text).faultPosition(), NONE);
    }

    // ---- promise 43

    @Edge(promise = 43, says = "`letter`: 0 to 127")
    static void letterOutOfRange(Check c) {
        ArbitratedBus x = new ArbitratedBus();
        for (int letter : new int[] {-1, 128, 255, 256, 48 + 256, LEAST, GREATEST}) {
            c.due("letter " + letter, x.append(letter), BAD_VALUE);
        }
        c.due("letter 0", x.append(0), 1);
        c.due("letter 127", x.append(127), 2);
    }

    @Edge(promise = 43, says = "Returns the length of the text")
    static void lengthOfTheText(Check c) {
        ArbitratedBus x = new ArbitratedBus();
        c.due("the first byte", x.append('0'), 1);
        c.due("the second byte", x.append('0'), 2);
        x.append(128);
        c.due("after a refused byte", x.append('0'), 3);
        x.clearText();
        c.due("after it was emptied", x.append('0'), 1);
    }

    @Edge(promise = 43, says = "Appends a byte to the text.")
    static void bytesInTheOrderOfAppending(Check c) {
        ArbitratedBus x = withText("0:12");
        c.due("too early", x.faultPosition(), 4);
        write(x, "3#");
        c.due("too early", x.faultPosition(), 6);
        write(x, ";");
        c.due("whole", x.faultPosition(), NONE);
        x.load();
        c.due("its identifier", x.waitingFrame(0, 0), 2 * 0x123);
        x.append(0);
        c.due("the byte 0 is a byte", x.faultPosition(), 7);
    }

    @Edge(promise = 43, says = "FULL if it has 120 bytes.")
    static void byteNumber121(Check c) {
        ArbitratedBus x = new ArbitratedBus();
        for (int length = 1; length <= 120; length++) {
            c.due("byte " + length, x.append('0'), length);
        }
        c.due("one more", x.append('0'), FULL);
        c.due("the text stays", x.clearText(), 120);
        c.due("room again", x.append('0'), 1);
    }

    @Edge(promise = 43, says = "The text has at most 120 bytes.")
    static void textOf120Bytes(Check c) {
        ArbitratedBus x = withText(LONGEST);
        c.due("no more", x.append('0'), FULL);
        c.due("all 120 bytes follow the form", x.faultPosition(), NONE);
        c.due("and are loaded", x.load(), 16);
        ArbitratedBus y = withText("0:001#;".repeat(17));
        c.due("the 120th", y.append('3'), 120);
        c.due("no more", y.append(':'), FULL);
        c.due("the text ends too early", y.faultPosition(), 120);
        ArbitratedBus z = withText("0:001#;".repeat(17));
        c.due("the 120th", z.append(' '), 120);
        c.due("the 120th is wrong", z.faultPosition(), 119);
    }

    @Edge(promise = 43, says = ORDER)
    static void badLetterBeforeFull(Check c) {
        ArbitratedBus x = withText("0".repeat(120));
        c.due("letter 128, full", x.append(128), BAD_VALUE);
        c.due("letter -1, full", x.append(-1), BAD_VALUE);
        c.due("full", x.append(0), FULL);
    }

    @Edge(promise = 43, says = CHANGES_NOTHING)
    static void refusedLetterChangesNothing(Check c) {
        changesNothing(c, EdgeKit::busyState, x -> {
            c.due("letter -1", x.append(-1), BAD_VALUE);
            c.due("letter 128", x.append(128), BAD_VALUE);
        });
        String full = "0:001#;".repeat(17) + "0";
        changesNothing(c, x -> write(x, full), x -> c.due("full", x.append('0'), FULL));
    }

    // ---- promise 44

    @Edge(promise = 44, says = "Returns the length that it had.")
    static void clearEmptyAndFullText(Check c) {
        ArbitratedBus x = new ArbitratedBus();
        c.due("empty", x.clearText(), 0);
        write(x, "0");
        c.due("one byte", x.clearText(), 1);
        c.due("empty again", x.clearText(), 0);
        write(x, "0".repeat(130));
        c.due("full", x.clearText(), 120);
    }

    @Edge(promise = 44, says = "Empties the text.")
    static void clearedTextIsEmpty(Check c) {
        ArbitratedBus x = withText("0:001#;x");
        c.due("a fault", x.faultPosition(), 7);
        x.clearText();
        c.due("no fault", x.faultPosition(), NONE);
        c.due("nothing to load", x.load(), 0);
        write(x, "1:002#;");
        c.due("only what came then", x.load(), 1);
        c.due("node 0", x.waiting(0), 0);
        c.due("node 1", x.waitingFrame(1, 0), 4);
    }

    // ---- promise 45

    @Edge(promise = 45, says = "NONE if it has no fault (also if it is empty).")
    static void emptyTextHasNoFault(Check c) {
        follows(c, "");
        follows(c, "0:000#;");
        follows(c, "3:7ff#ffffffff;");
    }

    @Edge(promise = 45, says = "It consists of any number of requests without blanks")
    static void anyNumberOfRequests(Check c) {
        for (int count = 0; count <= 17; count++) {
            follows(c, "0:000#;".repeat(count));
        }
        fault(c, " 0:000#;", 0);
        fault(c, "0 :000#;", 1);
        fault(c, "0: 000#;", 2);
        fault(c, "0:000 #;", 5);
        fault(c, "0:000# ;", 6);
        fault(c, "0:000#00 ;", 8);
        fault(c, "0:000#; ", 7);
        fault(c, "0:000#; 0:000#;", 7);
        fault(c, "0:000#;\n", 7);
    }

    @Edge(promise = 45, says = "the digit of a node")
    static void digitOfANode(Check c) {
        for (char digit = 0; digit < 128; digit++) {
            boolean node = digit >= '0' && digit <= '3';
            fault(c, digit + ":000#;", node ? NONE : 0);
        }
    }

    @Edge(promise = 45, says = "a colon")
    static void colon(Check c) {
        for (char letter = 0; letter < 128; letter++) {
            fault(c, "0" + letter + "000#;", letter == ':' ? NONE : 1);
        }
    }

    @Edge(promise = 45, says = "three hexadecimal digits for the identifier (000 to 7ff)")
    static void digitsOfTheIdentifier(Check c) {
        follows(c, "0:000#;");
        follows(c, "0:7ff#;");
        fault(c, "0:#;", 2);
        fault(c, "0:0#;", 3);
        fault(c, "0:00#;", 4);
        fault(c, "0:0000#;", 5);
        for (char letter = 0; letter < 128; letter++) {
            boolean hex = letter >= '0' && letter <= '9' || letter >= 'a' && letter <= 'f';
            fault(c, "0:7" + letter + "0#;", hex ? NONE : 3);
            fault(c, "0:70" + letter + "#;", hex ? NONE : 4);
        }
    }

    @Edge(promise = 45, says = "an identifier above 7ff does not follow it with its first digit")
    static void identifierAbove7ff(Check c) {
        for (char letter = 0; letter < 128; letter++) {
            boolean octal = letter >= '0' && letter <= '7';
            fault(c, "0:" + letter + "00#;", octal ? NONE : 2);
        }
        fault(c, "0:800#;", 2);
        fault(c, "0:fff#;", 2);
        fault(c, "0:8", 2);
    }

    @Edge(promise = 45, says = "a #, then either 0, 2, 4, 6 or 8 hexadecimal digits (the bytes of a data frame)")
    static void numberOfDigits(Check c) {
        for (int digits = 0; digits <= 10; digits++) {
            String text = "0:000#" + "0".repeat(digits) + ";";
            boolean follows = digits <= 8 && digits % 2 == 0;
            fault(c, text, follows ? NONE : digits > 8 ? 14 : 6 + digits);
        }
        fault(c, "0:000;", 5);
        fault(c, "0:00000;", 5);
        fault(c, "0:000##;", 6);
    }

    @Edge(promise = 45, says = "a semicolon after an odd number of digits does not follow it")
    static void semicolonAfterAnOddNumberOfDigits(Check c) {
        for (int digits = 1; digits <= 7; digits += 2) {
            fault(c, "0:000#" + "f".repeat(digits) + ";", 6 + digits);
            fault(c, "1:7ff#R4;0:000#" + "f".repeat(digits) + ";", 15 + digits);
        }
    }

    @Edge(promise = 45, says = "or R and a digit 0 to 4 (the length of a remote frame), and a semicolon.")
    static void remoteFrames(Check c) {
        for (char letter = 0; letter < 128; letter++) {
            fault(c, "0:000#R" + letter + ";", letter >= '0' && letter <= '4' ? NONE : 7);
            fault(c, "0:000#R4" + letter, letter == ';' ? NONE : 8);
        }
        fault(c, "0:000#r0;", 6);
        fault(c, "0:000#0R0;", 7);
        fault(c, "0:000#00R0;", 8);
        fault(c, "0:000#00000000R0;", 14);
        fault(c, "0:000#RR0;", 7);
    }

    @Edge(promise = 45, says = "Hexadecimal digits are 0 to 9 and a to f.")
    static void hexadecimalDigits(Check c) {
        for (char letter = 0; letter < 128; letter++) {
            boolean hex = letter >= '0' && letter <= '9' || letter >= 'a' && letter <= 'f';
            if (letter != ';' && letter != 'R') {
                fault(c, "0:000#" + letter + "0;", hex ? NONE : 6);
            }
            fault(c, "0:000#0" + letter + ";", hex ? NONE : 7);
            if (letter != ';') {
                fault(c, "0:000#000000" + letter + "0;", hex ? NONE : 12);
            }
        }
    }

    @Edge(promise = 45, says = "Returns the fault position of the text")
    static void faultFromTheFirstToTheLastByte(Check c) {
        fault(c, "4", 0);
        fault(c, "0:001#;".repeat(17) + "4", 119);
        fault(c, "0:001#;".repeat(17) + "0", 120);
    }

    @Edge(promise = 45, says = FAULT)
    static void firstOfSeveralFaults(Check c) {
        fault(c, "x:800#0;", 0);
        fault(c, "0:800#0;x", 2);
        fault(c, "0:000#0;x", 7);
        fault(c, "0:000#;4:000#;", 7);
        fault(c, "0:000#;;", 7);
        fault(c, ";", 0);
    }

    @Edge(promise = 45, says = "or its length if it ends too early.")
    static void textThatEndsTooEarly(Check c) {
        for (String whole : new String[] {"0:1a2#0b;", "3:7ff#R4;", "1:000#;2:7ff#01234567;"}) {
            for (int length = 0; length <= whole.length(); length++) {
                boolean ends = length == 0 || whole.charAt(length - 1) == ';';
                fault(c, whole.substring(0, length), ends ? NONE : length);
            }
        }
    }

    @Edge(promise = 45, says = FORM_OF_TEXT)
    static void everyRequestOfTheForm(Check c) {
        for (int node = 0; node < 4; node++) {
            for (int length = 0; length <= 4; length++) {
                follows(c, node + ":7ff#" + "a9".repeat(length) + ";");
                follows(c, node + ":000#R" + length + ";");
            }
        }
    }

    // ---- promise 46

    @Edge(promise = 46, says = "Returns the number of frames that are requested")
    static void loadFromNoneOn(Check c) {
        c.due("empty", new ArbitratedBus().load(), 0);
        c.due("one", withText("0:000#;").load(), 1);
        c.due("sixteen", withText("0:000#;1:000#;2:000#;3:000#;".repeat(4)).load(), 16);
    }

    @Edge(promise = 46, says = "Requests the frames of the text, one after the other;")
    static void loadLowestAndHighestFrames(Check c) {
        ArbitratedBus x = withText("0:000#;0:7ff#ffffffff;0:7ff#R4;0:000#R0;");
        c.due("four", x.load(), 4);
        c.due("the lowest", x.waitingFrame(0, 0), 0);
        c.due("the lowest remote", x.waitingFrame(0, 1), 1);
        c.due("the highest", x.waitingFrame(0, 2), 4094);
        c.due("the highest remote", x.waitingFrame(0, 3), 4095);
        x.settle();
        c.due("no bytes", x.receivedLength(1, 0), 0);
        c.due("remote, length 0", x.receivedLength(1, 1), 0);
        c.due("four bytes", x.receivedLength(1, 2), 4);
        c.due("all ones", x.receivedData(1, 2), -1);
        c.due("remote, length 4", x.receivedLength(1, 3), 4);
        c.due("no data", x.receivedData(1, 3), 0);
    }

    @Edge(promise = 46, says = "Requests the frames of the text, one after the other;")
    static void loadEveryLength(Check c) {
        ArbitratedBus x = withText("0:001#;0:002#12;0:003#1234;0:004#123456;1:005#12345678;");
        c.due("five", x.load(), 5);
        x.settle();
        int[] datas = {0, 0x12, 0x1234, 0x123456, 0x12345678};
        for (int length = 0; length <= 4; length++) {
            c.due("identifier", x.receivedFrame(2, length), 2 * (length + 1));
            c.due("length", x.receivedLength(2, length), length);
            c.due("data", x.receivedData(2, length), datas[length]);
        }
    }

    @Edge(promise = 46, says = "Requests the frames of the text, one after the other;")
    static void loadNothingOfTheRequestBefore(Check c) {
        ArbitratedBus x = withText("0:7ff#ffffffff;1:000#;2:001#R3;3:002#;");
        x.load();
        x.settle();
        c.due("no bytes after four", x.receivedLength(0, 0), 0);
        c.due("no data after four bytes", x.receivedData(0, 0), 0);
        c.due("remote", x.receivedFrame(0, 1), 3);
        c.due("no data of the remote frame", x.receivedData(0, 1), 0);
        c.due("data after remote", x.receivedFrame(0, 2), 4);
        c.due("no bytes after remote", x.receivedLength(0, 2), 0);
    }

    @Edge(promise = 46, says = "those for which a node has no room are left out.")
    static void loadMoreThanFour(Check c) {
        ArbitratedBus x = withText("1:005#;1:004#;1:003#;1:002#;1:001#;2:000#;1:000#;");
        c.due("four and one", x.load(), 5);
        c.due("the first four", x.waitingFrame(1, 0), 4);
        c.due("the first four", x.waitingFrame(1, 3), 10);
        c.due("another node", x.waiting(2), 1);
        c.due("again: only the other node has room", x.load(), 1);
        c.due("again", x.load(), 1);
        c.due("again", x.load(), 1);
        c.due("again: none has room", x.load(), 0);
    }

    @Edge(promise = 46, says = "The text stays.")
    static void textStaysAfterLoad(Check c) {
        ArbitratedBus x = withText("1:005#;2:005#R0;");
        c.due("first", x.load(), 2);
        c.due("second", x.load(), 2);
        c.due("no fault", x.faultPosition(), NONE);
        c.due("its length", x.clearText(), 16);
    }

    @Edge(promise = 46, says = "-1000 minus the fault position if the text has a fault")
    static void loadWithAFault(Check c) {
        c.due("fault at 0", withText("x").load(), -1000);
        c.due("fault at 7", withText("0:000#;x").load(), -1007);
        c.due("ends too early after 1", withText("0").load(), -1001);
        c.due("fault at 119", withText("0:001#;".repeat(17) + "x").load(), -1119);
        c.due("ends too early after 120", withText("0:001#;".repeat(17) + "0").load(), -1120);
    }

    @Edge(promise = 46, says = "(nothing changes then)")
    static void loadWithAFaultChangesNothing(Check c) {
        ArbitratedBus x = withText("0:000#;1:000#;2:000#0;");
        c.due("fault", x.load(), -1021);
        for (int node = 0; node < 4; node++) {
            c.due("nothing is requested of node " + node, x.waiting(node), 0);
        }
        c.due("the text stays", x.clearText(), 22);
        changesNothing(c, y -> {
            busyState(y);
            y.clearText();
            write(y, "3:000#;3:001#");
        }, y -> c.due("ends too early", y.load(), -1013));
    }

    @Edge(promise = 46, says = "A data frame has as many bytes of data as its length.")
    static void bytesInTheirOrder(Check c) {
        ArbitratedBus x = withText("0:001#80000000;0:002#00000001;0:003#8000;0:004#01;");
        x.load();
        x.settle();
        c.due("the first byte is the highest", x.receivedData(1, 0), LEAST);
        c.due("the last byte is the lowest", x.receivedData(1, 1), 1);
        c.due("of two bytes", x.receivedData(1, 2), 0x8000);
        c.due("of one byte", x.receivedData(1, 3), 1);
    }
}
