/** What compile and place leave as it was, and what they change (promises 4 and 5), a method for each sentence. */
public final class CompileEdgeTest {
    private static final Check CHECK = new Check();
    private static final String KERNEL = "a=n+I[1];?n<4{Oa;R;}{b=L[n];}*c<2{c=c+1;}Oc;";
    private static final int ISSUED = 11;

    public static void main(String[] args) {
        kernelBeforeStaysWithItsRuns();
        kernelBeforeStaysWithoutRuns();
        nothingIsStartedAnyMore();
        placeOfTheTextCompiledLast();
        placeIsChangedByCompileAlone();
        compileLeavesTheText();
        compileOfTheSameText();
        kernelIsNotTheText();
        inputsAndLanesStay();
        CHECK.end();
    }

    private static LaneDesk brought(int issued, int fuelAlone) {
        LaneDesk desk = Check.compiled(KERNEL);
        desk.lanes(6);
        desk.input(1, 40);
        desk.start();
        if (issued > 0) {
            desk.run(issued);
        }
        if (fuelAlone > 0) {
            desk.alone(fuelAlone);
        }
        return desk;
    }

    private static void dueCompile(LaneDesk desk, String text, int answer, int place) {
        desk.clear();
        if (!text.isEmpty()) {
            Check.type(desk, text);
        }
        CHECK.due("compile of " + text, desk.compile(), answer);
        CHECK.due("place of " + text, desk.place(), place);
    }

    /** "or how it is wrong (the kernel before stays, and its runs)": at each point of the run in step. */
    private static void kernelBeforeStaysWithItsRuns() {
        for (int issued = 0; issued <= ISSUED; issued++) {
            for (int fuelAlone : new int[] {0, 10, 4000}) {
                LaneDesk desk = brought(issued, fuelAlone);
                LaneDesk twin = brought(issued, fuelAlone);
                dueCompile(desk, "h=n;Xhg0;!", 1, 9);
                dueAlike(desk, twin, issued, fuelAlone == 4000);
                dueCompile(desk, "?n{h=1;}{Xab0;}", 2, 9);
                dueAlike(desk, twin, issued, fuelAlone == 4000);
                CHECK.due("the rest behind " + issued, desk.run(500), 1);
                twin.run(500);
                dueAlike(desk, twin, ISSUED, fuelAlone == 4000);
                desk.start();
                CHECK.due("anew", desk.run(ISSUED), 1);
                CHECK.due("alone", desk.alone(4000), 1);
            }
        }
    }

    private static void dueAlike(LaneDesk desk, LaneDesk twin, int issued, boolean results) {
        CHECK.due("issued", desk.spent(0), issued);
        CHECK.due("busy", desk.spent(1), twin.spent(1));
        CHECK.due("mask", desk.mask(), twin.mask());
        CHECK.due("b varies", desk.varies(1), true);
        CHECK.due("h does not", desk.varies(7), false);
        for (int lane = 0; lane < 8; lane++) {
            for (int what = 0; what < 3; what++) {
                CHECK.due("what " + what + " of " + lane, desk.lane(false, lane, what), twin.lane(false, lane, what));
            }
            CHECK.due("a of " + lane, desk.cell(false, lane, 8), twin.cell(false, lane, 8));
            if (results) {
                CHECK.due("a alone of " + lane, desk.cell(true, lane, 8), lane < 6 ? lane + 40 : 0);
                CHECK.due("numbers alone of " + lane, desk.lane(true, lane, 0), lane < 6 ? 1 : 0);
            }
        }
        if (!results) {
            CHECK.dueState("no results", () -> desk.lane(true, 0, 0));
        }
        if (issued < ISSUED) {
            CHECK.dueState("it is not over", () -> desk.input(0, 0));
            CHECK.dueState("it is not over", () -> desk.lanes(8));
        }
    }

    private static void kernelBeforeStaysWithoutRuns() {
        LaneDesk desk = Check.compiled("h=n;Oh;");
        dueCompile(desk, "a=", 1, 2);
        dueCompile(desk, "*n{Xab0;}", 2, 3);
        CHECK.due("h varies", desk.varies(7), true);
        CHECK.due("a does not", desk.varies(0), false);
        CHECK.dueState("not started", () -> desk.run(1));
        CHECK.dueState("no results", () -> desk.lane(true, 0, 0));
        desk.start();
        Check.finish(desk);
        CHECK.due("its number", desk.out(false, 5, 0), 5);
        CHECK.due("its number alone", desk.out(true, 5, 0), 5);
    }

    /** "0 (it is the kernel now, nothing is started)": at each point of the run in step. */
    private static void nothingIsStartedAnyMore() {
        for (int issued = 0; issued <= ISSUED; issued++) {
            LaneDesk desk = brought(issued, 4000);
            dueCompile(desk, "h=n;", 0, -1);
            CHECK.due("mask", desk.mask(), 0);
            CHECK.dueState("run", () -> desk.run(1));
            CHECK.dueState("spent", () -> desk.spent(0));
            CHECK.dueState("lane", () -> desk.lane(false, 0, 0));
            CHECK.dueState("out", () -> desk.out(false, 0, 0));
            CHECK.dueState("cell", () -> desk.cell(false, 0, 0));
            CHECK.dueState("lane alone", () -> desk.lane(true, 0, 0));
            CHECK.dueState("out alone", () -> desk.out(true, 0, 0));
            CHECK.dueState("cell alone", () -> desk.cell(true, 0, 0));
            CHECK.due("h varies", desk.varies(7), true);
            CHECK.due("b does not any more", desk.varies(1), false);
            desk.input(1, 7);
            desk.lanes(8);
            desk.start();
            CHECK.due("all eight", desk.mask(), 255);
            CHECK.due("one statement", desk.run(1), 1);
        }
    }

    /** "Where the text compiled last is wrong; -1 when it is not.", from one to the other. */
    private static void placeOfTheTextCompiledLast() {
        LaneDesk desk = new LaneDesk();
        CHECK.due("place before the first", desk.place(), -1);
        dueCompile(desk, "!", 1, 0);
        dueCompile(desk, "", 0, -1);
        dueCompile(desk, "R;".repeat(79) + "OO", 1, 159);
        dueCompile(desk, "R;".repeat(79) + "a=", 1, 160);
        dueCompile(desk, "R;", 0, -1);
        dueCompile(desk, "?n{Xab0;}", 2, 3);
        dueCompile(desk, "?n{Xab0;", 1, 8);
        dueCompile(desk, "?1{Xab0;}", 0, -1);
        dueCompile(desk, "?n{}{Xab0;}", 2, 5);
        dueCompile(desk, "a=1;", 0, -1);
    }

    private static void placeIsChangedByCompileAlone() {
        LaneDesk desk = Check.compiled("a=1;");
        dueCompile(desk, "a=1;!", 1, 4);
        desk.clear();
        CHECK.due("behind clear", desk.place(), 4);
        desk.type('R', 1);
        CHECK.due("behind type", desk.place(), 4);
        desk.start();
        desk.run(1);
        desk.alone(8);
        CHECK.due("behind runs", desk.place(), 4);
        CHECK.dueArgument("a wrong call", () -> desk.run(0));
        CHECK.due("behind a wrong call", desk.place(), 4);
        CHECK.due("compile", desk.compile(), 1);
        CHECK.due("place", desk.place(), 1);
        desk.type(';', 1);
        CHECK.due("place", desk.place(), 1);
        CHECK.due("compile", desk.compile(), 0);
        CHECK.due("place", desk.place(), -1);
        desk.type('!', 1);
        CHECK.due("a text that is not compiled", desk.place(), -1);
    }

    /** What is typed behind compile is more of the same text. */
    private static void compileLeavesTheText() {
        LaneDesk desk = new LaneDesk();
        String text = "a=1;Oa;";
        for (int k = 0; k < text.length(); k++) {
            CHECK.due("type of one more", desk.type(text.charAt(k), 1), k + 1);
            boolean whole = text.charAt(k) == ';';
            CHECK.due("compile of " + (k + 1), desk.compile(), whole ? 0 : 1);
            CHECK.due("place of " + (k + 1), desk.place(), whole ? -1 : k + 1);
        }
        desk.start();
        desk.run(2);
        CHECK.due("the whole text", desk.out(false, 0, 0), 1);
    }

    private static void compileOfTheSameText() {
        LaneDesk desk = Check.typed("?I[0]{O1;}{O2;}");
        for (int k = 0; k < 5; k++) {
            CHECK.due("compile", desk.compile(), 0);
            desk.input(0, k & 1);
            desk.start();
            Check.finish(desk);
            CHECK.due("in step", desk.out(false, 0, 0), 2 - (k & 1));
            CHECK.due("alone", desk.out(true, 0, 0), 2 - (k & 1));
        }
    }

    /** The kernel is what was compiled, not what is typed. */
    private static void kernelIsNotTheText() {
        LaneDesk desk = Check.compiled("O1;");
        desk.start();
        Check.type(desk, "O2;");
        CHECK.due("one statement", desk.run(1), 1);
        desk.clear();
        Check.type(desk, "h=n;");
        CHECK.due("h of the kernel", desk.varies(7), false);
        desk.start();
        Check.finish(desk);
        CHECK.due("its number", desk.out(true, 0, 0), 1);
    }

    private static void inputsAndLanesStay() {
        LaneDesk desk = brought(3, 0);
        dueCompile(desk, "OI[1];", 0, -1);
        desk.start();
        CHECK.due("six lanes", desk.mask(), 63);
        Check.finish(desk);
        CHECK.due("input 1 in step", desk.out(false, 5, 0), 40);
        CHECK.due("input 1 alone", desk.out(true, 5, 0), 40);
    }
}
