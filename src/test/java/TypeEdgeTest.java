/** The boundary cases of promises 2 (type) and 3 (clear), a method for each sentence. */
public final class TypeEdgeTest {
    private static final Check CHECK = new Check();

    public static void main(String[] args) {
        oneToEightCharacters();
        eachCharacterInItsRange();
        higherBytesDoNotCount();
        highestByteFirst();
        theWholeText();
        moreThan160();
        argumentBeforeState();
        clearOfNothing();
        clearOfFullText();
        clearLeavesTheRest();
        CHECK.end();
    }

    /** "n characters (1 .. 8 ..)". */
    private static void oneToEightCharacters() {
        long eight = Check.word("R;R;R;R;");
        for (int n = 1; n <= 8; n++) {
            CHECK.due("type of " + n, new LaneDesk().type(eight, n), n);
        }
        for (int n : Check.outside(1, 8)) {
            LaneDesk desk = new LaneDesk();
            CHECK.dueArgument("type of " + n, () -> desk.type(eight, n));
            CHECK.due("nothing is typed by n " + n, desk.type(eight, 1), 1);
        }
    }

    /** "each 33 .. 126", at each place of a word. */
    private static void eachCharacterInItsRange() {
        for (int n = 1; n <= 8; n++) {
            for (int k = 0; k < n; k++) {
                for (int character = 0; character < 256; character++) {
                    dueCharacter(n, k, character);
                }
            }
        }
        for (long word : new long[] {0, -1, Long.MIN_VALUE, Long.MAX_VALUE, 0x2020202020202020L, 0x7F7F7F7F7F7F7F7FL}) {
            LaneDesk desk = new LaneDesk();
            for (int n = 1; n <= 8; n++) {
                int count = n;
                CHECK.dueArgument("type of word " + word + ", " + n, () -> desk.type(word, count));
            }
        }
        CHECK.due("eight of 33", new LaneDesk().type(0x2121212121212121L, 8), 8);
        CHECK.due("eight of 126", new LaneDesk().type(0x7E7E7E7E7E7E7E7EL, 8), 8);
    }

    private static void dueCharacter(int n, int k, int character) {
        LaneDesk desk = new LaneDesk();
        long word = Check.word("AAAAAAAA") & ~(255L << 8 * k) | (long) character << 8 * k;
        String call = "type of " + n + " with byte " + k + " being " + character;
        if (character >= 33 && character <= 126) {
            CHECK.due(call, desk.type(word, n), n);
        } else {
            CHECK.dueArgument(call, () -> desk.type(word, n));
            CHECK.due("nothing is typed by " + call, desk.type('A', 1), 1);
        }
    }

    /** "the lowest n bytes": what is above them may be anything. */
    private static void higherBytesDoNotCount() {
        for (int n = 1; n < 8; n++) {
            for (long above : new long[] {0, -1, 0x2020202020202020L, 0x4141414141414141L, Long.MIN_VALUE}) {
                LaneDesk desk = new LaneDesk();
                long low = Check.word("RRRRRRR") & (1L << 8 * n) - 1;
                CHECK.due("type of " + n + " below " + above, desk.type(above << 8 * n | low, n), n);
                CHECK.due("compile", desk.compile(), 1);
                CHECK.due("place", desk.place(), 1);
            }
        }
    }

    /** "the highest of these first". */
    private static void highestByteFirst() {
        for (int n = 1; n <= 8; n++) {
            for (int k = 0; k < n; k++) {
                StringBuilder text = new StringBuilder("R;R;R;R;".substring(0, n));
                text.setCharAt(k, '!');
                LaneDesk desk = new LaneDesk();
                desk.type(Check.word(text.toString()), n);
                CHECK.due("compile of " + text, desk.compile(), 1);
                CHECK.due("place of " + text, desk.place(), k);
            }
        }
        LaneDesk digits = new LaneDesk();
        digits.type(Check.word("O1+234-5"), 8);
        digits.type(Check.word("6*7;"), 4);
        digits.compile();
        digits.start();
        digits.run(1);
        CHECK.due("O1+234-56*7;", digits.out(false, 0, 0), (1 + 234 - 56) * 7);
    }

    /** "how many it has", from the first one to the last, whatever it is typed by. */
    private static void theWholeText() {
        for (int n = 1; n <= 8; n++) {
            LaneDesk desk = new LaneDesk();
            long word = Check.word("R;R;R;R;");
            for (int count = n; count <= 160; count += n) {
                CHECK.due("type by " + n, desk.type(word, n), count);
            }
        }
    }

    /** "IllegalStateException: there would be more than 160." */
    private static void moreThan160() {
        for (int had = 150; had <= 160; had++) {
            for (int n = 1; n <= 8; n++) {
                dueAtMost160(had, n);
            }
        }
    }

    private static void dueAtMost160(int had, int n) {
        LaneDesk desk = Check.typed("R;".repeat(80).substring(0, had));
        long word = Check.word(had % 2 == 0 ? "R;R;R;R;" : ";R;R;R;R") >>> 8 * (8 - n);
        String call = had + " and " + n;
        if (had + n <= 160) {
            CHECK.due(call, desk.type(word, n), had + n);
            return;
        }
        CHECK.dueState(call, () -> desk.type(word, n));
        CHECK.due("nothing of it is typed: compile behind " + call, desk.compile(), had % 2);
        CHECK.due("place behind " + call, desk.place(), had % 2 == 0 ? -1 : had);
        if (had < 160) {
            CHECK.due("one more behind " + call, desk.type('R', 1), had + 1);
        }
    }

    /** A wrong argument is told also when the text is full, as the method's head names it first. */
    private static void argumentBeforeState() {
        LaneDesk full = Check.typed("R;".repeat(80));
        for (int n : Check.outside(1, 8)) {
            CHECK.dueArgument("full, and n " + n, () -> full.type(Check.word("RRRRRRRR"), n));
        }
        for (int character : new int[] {0, 32, 127, 255}) {
            CHECK.dueArgument("full, and character " + character, () -> full.type(character, 1));
        }
        CHECK.due("the full text is as it was", full.compile(), 0);
    }

    /** "No text." when there was none before. */
    private static void clearOfNothing() {
        LaneDesk desk = new LaneDesk();
        desk.clear();
        desk.clear();
        CHECK.due("type behind clear of nothing", desk.type('R', 1), 1);
        CHECK.due("type goes on", desk.type(';', 1), 2);
        CHECK.due("compile", desk.compile(), 0);
    }

    /** "No text." when there was as much as there can be. */
    private static void clearOfFullText() {
        LaneDesk desk = Check.typed("R;".repeat(80));
        CHECK.dueState("full", () -> desk.type('R', 1));
        desk.clear();
        CHECK.due("compile of no text", desk.compile(), 0);
        Check.type(desk, "O1;".repeat(53) + "O");
        CHECK.dueState("full again", () -> desk.type('2', 1));
        CHECK.due("compile of the new text", desk.compile(), 1);
        CHECK.due("place at its end", desk.place(), 160);
    }

    /** clear takes the text alone: kernel, runs, place, inputs and lanes stay. */
    private static void clearLeavesTheRest() {
        LaneDesk desk = Check.compiled("a=n;OI[3];b=1;");
        desk.input(3, 33);
        desk.lanes(3);
        desk.alone(4000);
        desk.start();
        desk.run(2);
        Check.type(desk, "!");
        desk.compile();
        desk.clear();
        CHECK.due("place", desk.place(), 14);
        CHECK.due("kernel", desk.varies(0), true);
        CHECK.due("mask", desk.mask(), 7);
        CHECK.due("spent", desk.spent(1), 6);
        CHECK.due("out in step", desk.out(false, 2, 0), 33);
        CHECK.due("out alone", desk.out(true, 2, 0), 33);
        CHECK.due("the run goes on", desk.run(1), 1);
        desk.start();
        CHECK.due("lanes", desk.mask(), 7);
        desk.run(2);
        CHECK.due("input", desk.out(false, 0, 0), 33);
    }
}
