/** Edges of THE TAPE, of TEXTS and of PAPER: terms 5, promises 25 to 28. */
public final class TextEdgesTest {
    private static final int NONE = Scene.NONE, BAD = Scene.BAD, FULL = Scene.FULL;
    private static final int LOW = Scene.LOW, HIGH = Scene.HIGH;
    private static final int TAPE = 80;
    private static final String[] KINDS = {"hole", "slim", "deck", "heavy", "buffer", "dummy"};
    private static Check check;

    public static void main(String[] args) {
        Check all = new Check();
        all(all);
        all.end("TextEdgesTest");
    }

    static void all(Check to) {
        check = to;
        tape();
        statements();
        tokens();
        blanks();
        faults();
        faultsOfKindTwo();
        faultsByWhatIsDone();
        paper();
        answers();
    }

    private static void due(String call, long got, long want) {
        check.due(call, got, want);
    }

    /** Two HOLES, (0, 0) and (0, 9), no WIRES, one byte of a TEXT done ahead. */
    private static BlastFace two() {
        return Scene.holes(Scene.at(0, 0, 0), Scene.at(0, 9, 0));
    }

    /** Reads a text on an object with two HOLES; by a FAULT nothing is done. */
    private static void reads(String text, int want) {
        BlastFace x = two();
        due("\"" + text + "\"", Check.text(x, text), want);
        due("THE TAPE behind \"" + text + "\"", x.count(2), 0);
        due("TEXTS done by \"" + text + "\"", x.count(3), want >= 0 ? 1 : 0);
        if (want >= 0) return;
        check.due("HOLES and WIRES behind \"" + text + "\"", Check.paperOf(x), "hole 0 0 hole 1 1 0;hole 0 9 hole 1 1 0");
        due("DEAD behind \"" + text + "\"", x.sets(2), 0);
        due("rules behind \"" + text + "\"", x.count(4) * 1000000 + x.count(5) * 1000 + x.count(6), 8100025);
    }

    /** A FAULT, by its place. */
    private static void fault(String text, int place) {
        reads(text, -100 - place);
    }

    /** A FAULT of kind 2, by its place. */
    private static void fault2(String text, int place) {
        reads(text, -300 - place);
    }

    private static String blanks(int n) {
        return " ".repeat(n);
    }

    private static void tape() {
        check.test("5: THE TAPE (80 bytes at most)", TextEdgesTest::tapeAtMost);
        check.test("Promise 25: a byte (0 .. 127), BAD", TextEdgesTest::feedBounds);
        check.test("Promise 25: how many it has", TextEdgesTest::feedCounts);
        check.test("Promise 25: BAD ahead of FULL", TextEdgesTest::feedOrder);
    }

    private static void tapeAtMost() {
        BlastFace x = new BlastFace();
        String text = "window 9" + blanks(TAPE - 8);
        for (int i = 0; i < TAPE; i++) due("feed", x.feed(text.charAt(i)), i + 1);
        due("an 81st", x.feed('x'), FULL);
        due("it has 80", x.count(2), TAPE);
        due("the 81st is none of the TEXT", x.read(), 1);
        due("what the TEXT does", x.count(4), 9);
        due("room again", x.feed(' '), 1);
        BlastFace y = new BlastFace();
        Scene.feed(y, blanks(TAPE - 8) + "window 7");
        due("the 80th is one of the TEXT", y.read(), 1);
        due("what it does", y.count(4), 7);
    }

    private static void feedBounds() {
        BlastFace x = new BlastFace();
        due("0", x.feed(0), 1);
        due("127", x.feed(127), 2);
        for (int letter : new int[] {-1, 128, 255, 256 + 'a', -128, LOW, HIGH}) due("feed(" + letter + ")", x.feed(letter), BAD);
        due("two came", x.count(2), 2);
    }

    private static void feedCounts() {
        BlastFace x = new BlastFace();
        due("none", x.count(2), 0);
        due("the first", x.feed('a'), 1);
        due("the second", x.feed('a'), 2);
        x.read();
        due("the first behind read()", x.feed('a'), 1);
        x.image();
        x.undo();
        due("THE TAPE stays by undo()", x.feed('a'), 2);
    }

    private static void feedOrder() {
        BlastFace x = new BlastFace();
        Scene.feed(x, blanks(TAPE));
        due("128 on a full TAPE", x.feed(128), BAD);
        due("-1 on a full TAPE", x.feed(-1), BAD);
        due("127 on a full TAPE", x.feed(127), FULL);
    }

    private static void statements() {
        check.test("5: STATEMENTS with ; between", TextEdgesTest::semicolons);
        check.test("5: one at least", TextEdgesTest::oneAtLeast);
        check.test("5: hole ROW COLUMN WORD CHARGE BURDEN IN", TextEdgesTest::holeShape);
        check.test("5: WORD: hole, slim, deck, heavy, buffer, dummy", TextEdgesTest::kindWords);
        check.test("5: wire FROM TO DELAY (FROM: start, or a number)", TextEdgesTest::wireShape);
        check.test("5: window, limit, pace NUMBER; dead HOLE", TextEdgesTest::shortShapes);
        check.test("5: the least and the greatest that each STATEMENT takes", TextEdgesTest::statementBounds);
    }

    private static void semicolons() {
        reads("pace 9", 1);
        reads("pace 9;pace 8", 2);
        fault(";pace 9", 0);
        fault("pace 9;", 7);
        fault("pace 9;;pace 8", 7);
        fault("pace 9 pace 8", 7);
        fault("pace ;9", 5);
        fault("pace 9; ;", 8);
        reads("pace5;pace5;pace5;pace5;pace5;pace5;pace5;pace5;pace5;pace5;pace5;pace5;pace5", 13);
        fault("pace5;pace5;pace5;pace5;pace5;pace5;pace5;pace5;pace5;pace5;pace5;pace5;pace5;", 78);
        fault("pace5;pace5;pace5;pace5;pace5;pace5;pace5;pace5;pace5;pace5;pace5;pace5;pace5;;", 78);
    }

    private static void oneAtLeast() {
        fault("", 0);
        fault(";", 0);
        due("a new object", new BlastFace().read(), -100);
        reads("dead 0", 1);
    }

    private static void holeShape() {
        reads("hole 1 2 deck 3 4 5", 1);
        String[] words = {"hole", "1", "2", "deck", "3", "4", "5"};
        StringBuilder text = new StringBuilder();
        for (int i = 0; i < words.length; i++) {
            if (i > 0) fault(text.toString(), text.length());
            if (i > 0) fault(text + " ;", text.length() + 1);
            if (i > 0) fault(text + (i == 3 ? " 7" : " deck"), text.length() + 1);
            text.append(i > 0 ? " " : "").append(words[i]);
        }
        fault(text + " 6", text.length() + 1);
        fault(text + " deck", text.length() + 1);
        BlastFace x = two();
        due("done", Check.text(x, text.toString()), 1);
        int[] want = {1, 2, 2, 3, 4, 5, 0};
        for (int what = 0; what < 7; what++) due("of(2, " + what + ")", x.of(2, what), want[what]);
    }

    private static void kindWords() {
        for (int k = 0; k < KINDS.length; k++) {
            BlastFace x = two();
            due(KINDS[k], Check.text(x, "hole 1 1 " + KINDS[k] + " 9 9 9"), 1);
            due("its KIND", x.of(2, 2), k);
            fault("hole 1 1 " + KINDS[k] + "s 9 9 9", 9);
            fault("hole 1 1 " + KINDS[k].substring(1) + " 9 9 9", 9);
            fault("hole 1 1 " + KINDS[k].substring(0, 3) + " 9 9 9", 9);
        }
        for (String other : new String[] {"wire", "start", "dead", "window", "limit", "pace", "x"}) fault("hole 1 1 " + other + " 9 9 9", 9);
        for (int k = 1; k < KINDS.length; k++) fault(KINDS[k] + " 1 1 hole 9 9 9", 0);
    }

    private static void wireShape() {
        reads("wire start 0 1", 1);
        reads("wire 0 1 1", 1);
        fault("wire", 4);
        fault("wire start", 10);
        fault("wire start 0", 12);
        fault("wire start 0 1 1", 15);
        fault("wire start 0 1 start", 15);
        fault("wire 0 start 1", 7);
        fault("wire 0 1 start", 9);
        fault("wire hole 1 1", 5);
        fault("wire starts 1 1", 5);
        fault("wire star 1 1", 5);
        fault("start 0 1", 0);
        BlastFace x = two();
        due("done", Check.text(x, "wire start 1 0;wire 1 0 500"), 2);
        due("from the STARTER", x.wired(0, 0) * 10 + x.wired(0, 1), 991);
        due("from HOLE 1", x.wired(1, 0) * 10000 + x.wired(1, 1) * 1000 + x.wired(1, 2), 10500);
    }

    private static void shortShapes() {
        for (String verb : new String[] {"window", "limit", "pace", "dead"}) {
            int n = verb.length();
            String one = verb.equals("dead") ? " 1" : " 9";
            reads(verb + one, 1);
            fault(verb, n);
            fault(verb + " ", n + 1);
            fault(verb + " start", n + 1);
            fault(verb + " " + verb, n + 1);
            fault(verb + one + " 1", n + 3);
            fault(verb + "s 1", 0);
            fault(verb.substring(1) + " 1", 0);
            fault(verb.substring(0, n - 1) + " 1", 0);
        }
        BlastFace x = two();
        due("all four", Check.text(x, "window 5;limit 6;pace 7;dead 1"), 4);
        due("rules", x.count(4) * 100 + x.count(5) * 10 + x.count(6), 567);
        due("DEAD", x.sets(2), 2);
    }

    private static void statementBounds() {
        reads("hole 0 1 hole 1 1 0;hole 4 9 dummy 99 20 999", 2);
        reads("wire start 0 0;wire 0 1 500", 2);
        reads("window 1;window 99;limit 1;limit 9999;pace 5;pace 99", 6);
        reads("dead 0;dead 1", 2);
        BlastFace x = new BlastFace();
        for (int i = 0; i < 19; i++) x.hole(i / 10, i % 10, 0, 1, 1, 0);
        for (int i = 0; i < 38; i++) x.wire(-1, 0, 0);
        due("the last of each", Check.text(x, "hole 4 9 hole 1 1 0;wire 19 0 1;wire start 19 1;dead 19"), 4);
        due("20 HOLES", x.count(0), 20);
        due("40 WIRES", x.count(1), 40);
        due("the last is DEAD", x.sets(2), 1 << 19);
    }

    private static void tokens() {
        check.test("5: WORDS (letters a .. z)", TextEdgesTest::letters);
        check.test("5: NUMBERS (digits, 4 at most)", TextEdgesTest::numbers);
        check.test("5: bytes that begin no TOKEN", TextEdgesTest::otherBytes);
    }

    private static void letters() {
        for (String verb : new String[] {"hole", "wire", "window", "limit", "pace", "dead"})
            for (int i = 0; i < verb.length(); i++) fault(otherLetter(verb, i) + " 0 0 1", 0);
        for (String kind : KINDS)
            for (int i = 0; i < kind.length(); i++) fault("hole 1 1 " + otherLetter(kind, i) + " 1 1 1", 9);
        for (int i = 0; i < 5; i++) fault("wire " + otherLetter("start", i) + " 0 1", 5);
        for (int b = 'a'; b <= 'z'; b++) {
            fault((char) b + "", 0);
            fault("pace" + (char) b + " 9", 0);
        }
        fault("pace 9;{ace 9", 7);
        fault("pace 9;`ace 9", 7);
        fault("pace`9", 4);
        fault("pace{9", 4);
        fault("Pace 9", 0);
        fault("pAce 9", 0);
        fault("pacE 9", 0);
        fault("window 9;" + "z".repeat(71), 9);
    }

    private static String otherLetter(String word, int i) {
        return word.substring(0, i) + (word.charAt(i) == 'q' ? 'x' : 'q') + word.substring(i + 1);
    }

    private static void numbers() {
        reads("limit 9", 1);
        reads("limit 0009", 1);
        reads("limit 9999", 1);
        fault("limit 00009", 6);
        fault("limit 10000", 6);
        fault("limit 99999", 6);
        fault("limit " + "0".repeat(73) + "9", 6);
        fault("limit 4294967304", 6);
        fault("limit -9", 6);
        fault("limit +9", 6);
        fault("limit 9.", 7);
        fault("limit 1_0", 7);
        BlastFace x = two();
        due("all digits", Check.text(x, "limit 1234;limit 5678;window 90"), 3);
        due("WINDOW", x.count(4), 90);
        due("LIMIT", x.count(5), 5678);
        due("with noughts ahead", Check.text(x, "window 0007;limit 0100;pace 005"), 3);
        due("as without", x.count(4) * 10000 + x.count(5) * 10 + x.count(6), 71005);
    }

    private static void otherBytes() {
        for (int b = 0; b < 128; b++) {
            boolean isToken = b >= 'a' && b <= 'z' || b >= '0' && b <= '9' || b == ';' || b == ' ';
            if (isToken) continue;
            char c = (char) b;
            fault("pace 9 " + c, 7);
            fault("pace 9" + c, 6);
            fault("pace " + c + "9", 5);
            fault("pace" + c + "9", 4);
            fault(c + "pace 9", 0);
        }
    }

    private static void blanks() {
        check.test("5: blanks (32) stand between, where they are needed", TextEdgesTest::blanksNeeded);
        check.test("5: blanks may stand anywhere else", TextEdgesTest::blanksAnywhere);
        check.test("In doubt: a WORD may stand right behind a NUMBER", TextEdgesTest::wordBehindNumber);
        check.test("In doubt: the FAULT of blanks alone is how many they are", TextEdgesTest::blanksAlone);
    }

    private static void blanksNeeded() {
        fault("wirestart 0 1", 0);
        fault("wire 01 1", 9);
        fault("hole 1 1 hole 11 1", 18);
        fault("pa ce 9", 0);
        reads("window 1 ;limit 1", 2);
        fault("limit 1 0", 8);
        fault("pace\t9", 4);
        fault("pace\n9", 4);
        fault("pace" + (char) 31 + "9", 4);
        fault("pace!9", 4);
    }

    private static void blanksAnywhere() {
        reads("  window   9  ", 1);
        reads(" window 9 ; limit 9 ;pace 9; dead 0 ", 4);
        reads("window9;limit9;pace9;dead0", 4);
        reads("wire  start  0  1", 1);
        reads("hole  1  1  hole  1  1  1", 1);
        reads(blanks(74) + "pace 9", 1);
        reads("pace" + blanks(75) + "9", 1);
        reads("pace 9" + blanks(74), 1);
        reads("wire start0 1", 1);
    }

    private static void wordBehindNumber() {
        reads("hole 1 1hole 1 1 1", 1);
        reads("hole 1 1hole1 1 1", 1);
        reads("hole 0001 0001dummy 0001 0001 0001", 1);
        fault("hole 1 00001dummy 1 1 1", 7);
        fault("hole 1 1dummyx 1 1 1", 8);
        fault("pace 9pace 9", 6);
        fault("limit 1e3", 7);
    }

    private static void blanksAlone() {
        for (int n : new int[] {0, 1, 2, 79, 80}) fault(blanks(n), n);
    }

    private static void faults() {
        check.test("5: FAULT: the first byte of the first TOKEN that can't stand there", TextEdgesTest::firstToken);
        check.test("5: FAULT: a WORD that is none of those", TextEdgesTest::noneOfThose);
        check.test("5: FAULT: a NUMBER of 5 digits and more", TextEdgesTest::fiveDigits);
        check.test("5: FAULT: THE TAPE's size, if it ends too early", TextEdgesTest::tooEarly);
        check.test("5: FAULT: also of a byte that begins none", TextEdgesTest::beginsNone);
    }

    private static void firstToken() {
        fault("9", 0);
        fault("   9", 3);
        fault("pace pace 9", 5);
        fault("pace 9 9 9", 7);
        fault("pace x;pace x", 5);
        fault("pace 9;pace x;x", 12);
        fault(blanks(79) + ";", 79);
        fault("pace 9" + blanks(73) + "9", 79);
        fault("dead 0;dead dead", 12);
    }

    private static void noneOfThose() {
        fault("holes 1 1 hole 1 1 1", 0);
        fault("a", 0);
        fault("pace 9;speed 9", 7);
        fault("pace 9;windowlimit 9", 7);
        fault("hole 1 1 big 1 1 1", 9);
        fault("hole big", 5);
        fault("wire begin 0 1", 5);
        fault("z".repeat(80), 0);
    }

    private static void fiveDigits() {
        fault("window 00001", 7);
        fault("12345", 0);
        fault("window 9;12345", 9);
        fault("window 9 12345", 9);
        fault("hole 11111", 5);
        fault("hole 1 1 11111", 9);
        fault("wire 00000 1 1", 5);
        fault("wire start 0 00001", 13);
        fault("dead 000000", 5);
        fault("9".repeat(80), 0);
    }

    private static void tooEarly() {
        fault("pace", 4);
        fault("pace   ", 7);
        fault("pace 9;   ", 10);
        fault("pace" + blanks(76), 80);
        fault(blanks(76) + "pace", 80);
        fault(blanks(73) + "pace 9;", 80);
        reads(blanks(74) + "pace 9", 1);
        fault("hole 1 1 hole 1 1", 17);
        fault("wire start 0 ", 13);
    }

    private static void beginsNone() {
        fault("?", 0);
        fault("pace 9?", 6);
        fault("pace ?9", 5);
        fault("pace 9; ?", 8);
        fault("pa?ce 9", 0);
        fault("pace 9?x", 6);
        fault("limit 12345?", 6);
        fault("x?", 0);
        fault((char) 0 + "", 0);
        fault((char) 127 + "", 0);
    }

    private static void faultsOfKindTwo() {
        check.test("5: kind 2, if there is none of these in the whole text", TextEdgesTest::kindTwoLast);
        check.test("5: kind 2: the place of the first byte of the first STATEMENT", TextEdgesTest::kindTwoPlace);
        check.test("5: kind 2: a number outside its bounds, of hole", TextEdgesTest::holeOutside);
        check.test("5: kind 2: a number outside its bounds, of wire", () -> {
            reads("wire 0 1 500", 1);
            fault2("wire 0 1 501", 0);
            fault2("wire 0 1 9999", 0);
        });
        check.test("5: kind 2: a number outside its bounds, of window, limit, pace", TextEdgesTest::ruleOutside);
        check.test("5: kind 2: a place that is taken", TextEdgesTest::placeTaken);
        check.test("5: kind 2: no such HOLE", TextEdgesTest::noSuchHole);
        check.test("5: kind 2: one HOLE twice", TextEdgesTest::oneHoleTwice);
        check.test("5: kind 2: no room", TextEdgesTest::noRoom);
        check.test("5: kind 2: one DEAD already", TextEdgesTest::deadAlready);
    }

    private static void kindTwoLast() {
        fault2("window 0", 0);
        fault("window 0;", 9);
        fault("window 0;pace x", 14);
        fault("dead 7;?", 7);
        fault("pace x;window 0", 5);
        fault("window 0;12345", 9);
        fault2("window 0;window 9", 0);
    }

    private static void kindTwoPlace() {
        fault2("window 0;limit 0", 0);
        fault2("window 9;limit 0;pace 0", 9);
        fault2("window 9;limit 9;pace 0", 17);
        fault2("   window 0", 3);
        fault2("window 9;  window 0", 11);
        fault2("window 9 ;window 0", 10);
        fault2("window9;pace4", 8);
        fault2(blanks(73) + "window0", 73);
        fault2("pace5;pace5;pace5;pace5;pace5;pace5;pace5;pace5;pace5;pace5;pace5;pace5;pace4", 72);
    }

    private static void holeOutside() {
        fault2("hole 5 1 hole 1 1 0", 0);
        fault2("hole 0 10 hole 1 1 0", 0);
        fault2("hole 0 1 hole 0 1 0", 0);
        fault2("hole 0 1 hole 100 1 0", 0);
        fault2("hole 0 1 hole 1 0 0", 0);
        fault2("hole 0 1 hole 1 21 0", 0);
        fault2("hole 0 1 hole 1 1 1000", 0);
        fault2("hole 9999 9999 hole 9999 9999 9999", 0);
        reads("hole 4 9 hole 99 20 999", 1);
        reads("hole 0 1 hole 1 1 0", 1);
    }

    private static void ruleOutside() {
        fault2("window 0", 0);
        fault2("window 100", 0);
        fault2("limit 0", 0);
        fault2("pace 4", 0);
        fault2("pace 100", 0);
        fault2("pace 0", 0);
        fault2("pace 9999", 0);
        reads("limit 9999", 1);
        reads("pace 5;pace 99;window 1;window 99;limit 1", 5);
    }

    private static void placeTaken() {
        fault2("hole 0 0 dummy 9 9 9", 0);
        fault2("hole 0 9 dummy 9 9 9", 0);
        fault2("hole 1 0 slim 1 1 1;hole 1 0 slim 1 1 1", 20);
        reads("hole 1 0 slim 1 1 1;hole 0 1 slim 1 1 1", 2);
    }

    private static void noSuchHole() {
        fault2("wire 2 0 1", 0);
        fault2("wire 0 2 1", 0);
        fault2("wire start 2 1", 0);
        fault2("wire 9999 0 1", 0);
        fault2("dead 2", 0);
        fault2("dead 9999", 0);
        fault2("wire 99 0 1", 0);
        reads("wire 1 0 1;dead 1", 2);
        due("there are none", Check.text(new BlastFace(), "wire start 0 1"), -300);
        due("there are none", Check.text(new BlastFace(), "dead 0"), -300);
    }

    private static void oneHoleTwice() {
        fault2("wire 0 0 1", 0);
        fault2("wire 1 1 1", 0);
        fault2("wire 0 1 1;wire 1 1 1", 11);
        reads("wire 0 1 1;wire 1 0 1", 2);
    }

    private static void noRoom() {
        BlastFace x = new BlastFace();
        for (int i = 0; i < 19; i++) x.hole(i / 10, i % 10, 0, 1, 1, 0);
        due("a 21st HOLE", Check.text(x, "hole 4 0 slim 1 1 1;hole 4 1 slim 1 1 1"), -320);
        due("nothing is done", x.count(0), 19);
        due("a 20th", Check.text(x, "hole 4 0 slim 1 1 1"), 1);
        due("a 21st alone", Check.text(x, "hole 4 1 slim 1 1 1"), -300);
        for (int i = 0; i < 39; i++) x.wire(-1, 0, 0);
        due("a 41st WIRE", Check.text(x, "wire 0 1 1;wire 0 1 1"), -311);
        due("nothing is done", x.count(1), 39);
        due("a 40th", Check.text(x, "wire 0 1 1"), 1);
        due("a 41st alone", Check.text(x, "wire 0 1 1"), -300);
    }

    private static void deadAlready() {
        BlastFace x = two();
        x.becomes(1, Scene.DEAD, 1);
        due("it is", Check.text(x, "dead 1"), -300);
        due("the other isn't", Check.text(x, "dead 0"), 1);
        due("now it is", Check.text(x, "pace 9;dead 0"), -307);
        x.becomes(0, Scene.DEAD, 0);
        due("not any more", Check.text(x, "dead 0"), 1);
    }

    private static void faultsByWhatIsDone() {
        check.test("5: kind 2: by what those ahead of it would have done", TextEdgesTest::byThoseAhead);
        check.test("5: Nothing is done then", TextEdgesTest::nothingIsDone);
        check.test("Promise 26: a TEXT, and done", TextEdgesTest::oneByOne);
    }

    private static void byThoseAhead() {
        reads("hole 1 1 slim 1 1 1;wire 2 0 5;wire start 2 5;dead 2", 4);
        fault2("wire 2 0 5;hole 1 1 slim 1 1 1", 0);
        fault2("hole 1 1 slim 1 1 1;wire 3 0 5", 20);
        fault2("dead 0;dead 0", 7);
        fault2("dead 0;dead 1;dead 0", 14);
        fault2("hole 1 1 slim 1 1 1;dead 2;hole 1 1 slim 1 1 1", 27);
        fault2("dead 2;hole 1 1 slim 1 1 1", 0);
    }

    private static void nothingIsDone() {
        for (String tail : new String[] {"pace 4", "pace x", "pace 5;"}) {
            BlastFace x = two();
            x.wire(-1, 0, 0);
            x.step();
            String text = "hole 1 1 slim 1 1 1;wire 0 1 1;dead 1;limit 9;window 9;pace 9;" + tail;
            due(text, Check.text(x, text) < -100 ? 1 : 0, 1);
            due("HOLES", x.count(0), 2);
            due("WIRES", x.count(1), 1);
            due("DEAD", x.sets(2), 0);
            due("rules", x.count(4) * 1000000 + x.count(5) * 1000 + x.count(6), 8100025);
            due("CLOCK", x.stepped(0), 1);
            due("TEXTS", x.count(3), 0);
        }
    }

    private static void oneByOne() {
        BlastFace x = two();
        due("the last of several", Check.text(x, "window 1;window 2;window 3"), 3);
        due("is what stands", x.count(4), 3);
        due("HOLES as they come", Check.text(x, "hole 1 1 slim 1 1 1;hole 1 0 deck 1 1 1"), 2);
        due("the first", x.of(2, 2), 1);
        due("the second", x.of(3, 2), 2);
        due("a HOLE's MADE", Check.text(x, "hole 0 1 dummy 1 1 1"), 1);
        due("as by hole()", x.of(4, 10), 12345789);
        due("AHEAD, too", x.of(2, 11), 1);
    }

    private static void paper() {
        check.test("5: PAPER: HOLES, then WIRES, as STATEMENTS with ; between", TextEdgesTest::paperOrder);
        check.test("5: PAPER: one blank between TOKENS, none around ;", TextEdgesTest::paperBlanks);
        check.test("5: PAPER: rules, DEAD are not told", TextEdgesTest::paperTellsNot);
        check.test("Promise 27: how many bytes PAPER has", TextEdgesTest::paperSizes);
        check.test("Promise 28: byte i, NONE", TextEdgesTest::paperBytes);
    }

    private static void paperOrder() {
        BlastFace x = new BlastFace();
        check.due("nothing", Check.paperOf(x), "");
        x.hole(4, 9, 1, 99, 20, 999);
        check.due("one HOLE", Check.paperOf(x), "hole 4 9 slim 99 20 999");
        x.wire(-1, 0, 500);
        check.due("one WIRE", Check.paperOf(x), "hole 4 9 slim 99 20 999;wire start 0 500");
        x.hole(0, 0, 5, 1, 1, 0);
        x.wire(0, 1, 0);
        check.due("HOLES ahead of WIRES", Check.paperOf(x),
            "hole 4 9 slim 99 20 999;hole 0 0 dummy 1 1 0;wire start 0 500;wire 0 1 0");
        x.cut(0);
        check.due("a WIRE less", Check.paperOf(x), "hole 4 9 slim 99 20 999;hole 0 0 dummy 1 1 0;wire 0 1 0");
        x.drop();
        check.due("a HOLE less", Check.paperOf(x), "hole 4 9 slim 99 20 999");
        x.drop();
        check.due("nothing again", Check.paperOf(x), "");
    }

    private static void paperBlanks() {
        BlastFace x = new BlastFace();
        due("with many blanks", Check.text(x, " hole 0 0  hole 0009 10  99 ;  hole1 0deck 010 1 0100 ;  wire  start 0 007 "), 3);
        check.due("numbers without noughts ahead", Check.paperOf(x), "hole 0 0 hole 9 10 99;hole 1 0 deck 10 1 100;wire start 0 7");
        BlastFace y = new BlastFace();
        due("as it is spelled it is read", Check.text(y, Check.paperOf(x)), 3);
        check.due("and spelled again", Check.paperOf(y), Check.paperOf(x));
    }

    private static void paperTellsNot() {
        BlastFace x = two();
        String before = Check.paperOf(x);
        x.becomes(0, Scene.DEAD, 1);
        x.rule(0, 99);
        x.rule(1, 9999);
        x.rule(2, 99);
        check.due("DEAD and rules", Check.paperOf(x), before);
        x.becomes(1, Scene.CHARGE, 10);
        x.becomes(1, Scene.BURDEN, 10);
        x.becomes(1, Scene.IN, 100);
        check.due("what they became", Check.paperOf(x), "hole 0 0 hole 1 1 0;hole 0 9 hole 10 10 100");
    }

    private static void paperSizes() {
        BlastFace x = new BlastFace();
        due("nothing", x.spell(), 0);
        x.hole(0, 0, 0, 9, 9, 9);
        due("the shortest HOLE", x.spell(), 19);
        x.becomes(0, Scene.CHARGE, 10);
        due("a digit more", x.spell(), 20);
        x.becomes(0, Scene.BURDEN, 10);
        due("a digit more", x.spell(), 21);
        x.becomes(0, Scene.IN, 10);
        due("a digit more", x.spell(), 22);
        x.becomes(0, Scene.IN, 99);
        due("99", x.spell(), 22);
        x.becomes(0, Scene.IN, 100);
        due("100", x.spell(), 23);
        BlastFace most = new BlastFace();
        for (int i = 0; i < 20; i++) most.hole(i / 10, i % 10, 4, 99, 20, 999);
        for (int i = 0; i < 40; i++) most.wire(-1, 10 + i % 10, 500);
        due("the most", most.spell(), 20 * 25 + 40 * 17 + 59);
        due("its last byte", most.paper(most.spell() - 1), '0');
        due("behind it", most.paper(most.spell()), NONE);
    }

    private static void paperBytes() {
        BlastFace x = new BlastFace();
        for (int i : new int[] {-1, 0, 1, LOW, HIGH}) due("nothing: paper(" + i + ")", x.paper(i), NONE);
        x.hole(0, 0, 0, 1, 1, 7);
        due("the first", x.paper(0), 'h');
        due("a blank", x.paper(4), ' ');
        due("the last", x.paper(18), '7');
        for (int i : new int[] {-1, 19, LOW, HIGH}) due("paper(" + i + ")", x.paper(i), NONE);
        x.wire(-1, 0, 0);
        due("; between", x.paper(19), ';');
        due("right behind it", x.paper(20), 'w');
    }

    private static void answers() {
        check.test("Promise 26: THE TAPE is empty then (by a FAULT of either kind, too)", TextEdgesTest::tapeIsEmpty);
        check.test("Promise 26: how many STATEMENTS", TextEdgesTest::howManyStatements);
        check.test("Promise 26: -100 less the FAULT", () -> {
            fault("", 0);
            fault("pace 9 x", 7);
            fault(blanks(80), 80);
        });
        check.test("Promise 26: of kind 2: -300 less it", () -> {
            fault2("pace 0", 0);
            fault2("pace 9;pace 0", 7);
            fault2(blanks(75) + "pace0", 75);
        });
    }

    private static void tapeIsEmpty() {
        for (String text : new String[] {"pace 9", "pace 0", "pace x", "", " "}) {
            BlastFace x = two();
            Check.text(x, text);
            due("behind \"" + text + "\"", x.count(2), 0);
            due("nothing is left of it", x.read(), -100);
            due("the next is read alone", Check.text(x, "limit 7"), 1);
            due("and done", x.count(5), 7);
        }
    }

    private static void howManyStatements() {
        reads("pace 9", 1);
        reads("pace 9;pace 9", 2);
        reads("dead0;dead1;pace5;pace5;pace5;pace5;pace5;pace5;pace5;pace5;pace5;pace5;pace5", 13);
    }
}
