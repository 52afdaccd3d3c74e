/** Promises 2 and 3. */
public final class TypeTest {
    private static final Check CHECK = new Check();

    public static void main(String[] args) {
        characters();
        wrongCharacters();
        full();
        clearing();
        CHECK.end();
    }

    private static void characters() {
        LaneDesk desk = new LaneDesk();
        CHECK.due("type of 3", desk.type(Check.word("O12"), 3), 3);
        CHECK.due("type of 8", desk.type(Check.word("3;R;R;R;"), 8), 11);
        CHECK.due("higher bytes do not count", desk.type(0x0102030405064F37L, 2), 13);
        CHECK.due("only the last one counts", desk.type(-1L << 8 | ';', 1), 14);
        CHECK.due("compile of O123;R;R;R;O7;", desk.compile(), 0);
        desk.start();
        desk.run(1);
        CHECK.due("the highest byte is the first character", desk.out(false, 0, 0), 123);

        LaneDesk edges = new LaneDesk();
        CHECK.due("33 is a character", edges.type(33, 1), 1);
        CHECK.due("126 is a character", edges.type(126, 1), 2);
    }

    private static void wrongCharacters() {
        LaneDesk desk = Check.typed("R;");
        CHECK.dueArgument("n 0", () -> desk.type('R', 0));
        CHECK.dueArgument("n -1", () -> desk.type('R', -1));
        CHECK.dueArgument("n least", () -> desk.type('R', Integer.MIN_VALUE));
        CHECK.dueArgument("n 9", () -> desk.type(Check.word("RRRRRRRR"), 9));
        CHECK.dueArgument("32", () -> desk.type(32, 1));
        CHECK.dueArgument("127", () -> desk.type(127, 1));
        CHECK.dueArgument("0", () -> desk.type(0, 1));
        CHECK.dueArgument("255", () -> desk.type(255, 1));
        CHECK.dueArgument("a blank in front", () -> desk.type(Check.word(" RRRRRRR"), 8));
        CHECK.dueArgument("a blank behind", () -> desk.type(Check.word("RRRRRRR "), 8));
        CHECK.dueArgument("a blank within", () -> desk.type(Check.word("R R"), 3));
        CHECK.dueArgument("the sign bit", () -> desk.type(Long.MIN_VALUE | Check.word("RRRRRRR"), 8));
        CHECK.due("what is refused is not typed", desk.type(Check.word("R;"), 2), 4);
        CHECK.due("compile of R;R;", desk.compile(), 0);
    }

    private static void full() {
        LaneDesk desk = Check.typed("R;".repeat(78));
        CHECK.dueState("156 and 5", () -> desk.type(Check.word("R;R;R"), 5));
        CHECK.due("156 and 4", desk.type(Check.word("R;R;"), 4), 160);
        CHECK.dueState("160 and 1", () -> desk.type('R', 1));
        CHECK.dueArgument("a wrong argument goes before a full text", () -> desk.type(' ', 1));
        CHECK.dueArgument("a wrong n goes before a full text", () -> desk.type('R', 9));
        CHECK.due("compile of 80 statements", desk.compile(), 0);
    }

    private static void clearing() {
        LaneDesk desk = Check.typed("R;".repeat(80));
        desk.clear();
        CHECK.due("type after clear", desk.type(Check.word("a="), 2), 2);
        CHECK.due("compile", desk.compile(), 1);
        CHECK.due("place", desk.place(), 2);
        desk.clear();
        CHECK.due("clear leaves the place", desk.place(), 2);
        CHECK.due("no text is a kernel", desk.compile(), 0);
        CHECK.due("place", desk.place(), -1);
        Check.type(desk, "*1{a=n;}");
        CHECK.due("compile", desk.compile(), 0);
        desk.start();
        desk.run(2);
        desk.clear();
        CHECK.due("clear leaves the kernel", desk.varies(0), true);
        CHECK.due("clear leaves the run", desk.mask(), 255);
        CHECK.due("clear leaves what was spent", desk.spent(0), 2);
        CHECK.due("the run goes on", desk.run(3), 0);
        CHECK.due("a clear text takes 8 characters", desk.type(Check.word("R;R;R;R;"), 8), 8);
    }
}
