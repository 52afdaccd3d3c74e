/** What a call answers before the first of what it speaks of: no text, no kernel, no run, no results. */
public final class BeforeTheFirstTest {
    private static final Check CHECK = new Check();

    public static void main(String[] args) {
        newObject();
        textThatIsNotCompiled();
        wrongTextAndNoKernelBefore();
        inputsAndLanesBeforeTheKernel();
        kernelThatIsNotStarted();
        noResultsAlone();
        resultsAloneAreNoRunInStep();
        startedAndNothingIssued();
        newKernelHasNoRuns();
        emptyKernel();
        CHECK.end();
    }

    /** Promise 1: "No text, no kernel, inputs 0." */
    private static void newObject() {
        LaneDesk desk = new LaneDesk();
        CHECK.due("place", desk.place(), -1);
        dueNoKernel("a new object", desk);
        CHECK.due("compile of no text", desk.compile(), 0);
        Check.type(desk, "*a<16{?I[a]{b=b+1;}a=a+1;}");
        CHECK.due("compile", desk.compile(), 0);
        desk.start();
        CHECK.due("all lanes take part at first", desk.mask(), 255);
        Check.finish(desk);
        CHECK.due("inputs that are not 0 in step", desk.cell(false, 0, 9), 0);
        CHECK.due("inputs that are not 0 alone", desk.cell(true, 0, 9), 0);
    }

    private static void textThatIsNotCompiled() {
        LaneDesk desk = Check.typed("!");
        CHECK.due("place before the first compile", desk.place(), -1);
        dueNoKernel("a text that is not compiled", desk);
    }

    /** "or how it is wrong (the kernel before stays ..)": there was none, so there is none. */
    private static void wrongTextAndNoKernelBefore() {
        LaneDesk syntax = Check.typed("a=1;!");
        CHECK.due("compile", syntax.compile(), 1);
        CHECK.due("place", syntax.place(), 4);
        dueNoKernel("wrong with 1", syntax);
        LaneDesk parted = Check.typed("a=n;?a{Xbc0;}");
        CHECK.due("compile", parted.compile(), 2);
        CHECK.due("place", parted.place(), 7);
        dueNoKernel("wrong with 2", parted);
        CHECK.due("the place stays", parted.place(), 7);
    }

    /** Of two exceptions that fit, the one that the method's head names first. */
    private static void dueNoKernel(String what, LaneDesk desk) {
        CHECK.due("mask of " + what, desk.mask(), 0);
        for (int v : new int[] {-1, 0, 7, 8}) {
            CHECK.dueState("varies(" + v + ") of " + what, () -> desk.varies(v));
        }
        CHECK.dueState("start of " + what, desk::start);
        for (int fuel : new int[] {0, 1, 4000, 4001}) {
            CHECK.dueState("alone(" + fuel + ") of " + what, () -> desk.alone(fuel));
        }
        dueNotStarted(what, desk);
        dueNoResults(what, desk, true);
    }

    private static void dueNotStarted(String what, LaneDesk desk) {
        CHECK.due("mask of " + what, desk.mask(), 0);
        for (int fuel : new int[] {Integer.MIN_VALUE, 0, 1, 500, 501}) {
            CHECK.dueState("run(" + fuel + ") of " + what, () -> desk.run(fuel));
        }
        CHECK.dueState("spent(0) of " + what, () -> desk.spent(0));
        CHECK.dueState("spent(1) of " + what, () -> desk.spent(1));
        CHECK.dueArgument("spent(-1) of " + what, () -> desk.spent(-1));
        CHECK.dueArgument("spent(2) of " + what, () -> desk.spent(2));
        dueNoResults(what, desk, false);
    }

    private static void dueNoResults(String what, LaneDesk desk, boolean alone) {
        String of = " of " + what + (alone ? " alone" : " in step");
        for (int lane : new int[] {0, 7}) {
            CHECK.dueState("lane 0" + of, () -> desk.lane(alone, lane, 0));
            CHECK.dueState("lane 2" + of, () -> desk.lane(alone, lane, 2));
            CHECK.dueState("out 0" + of, () -> desk.out(alone, lane, 0));
            CHECK.dueState("out -1" + of, () -> desk.out(alone, lane, -1));
            CHECK.dueState("out 20" + of, () -> desk.out(alone, lane, 20));
            CHECK.dueState("cell 0" + of, () -> desk.cell(alone, lane, 0));
            CHECK.dueState("cell 15" + of, () -> desk.cell(alone, lane, 15));
        }
        for (int lane : new int[] {-1, 8}) {
            CHECK.dueArgument("lane of no lane" + of, () -> desk.lane(alone, lane, 0));
            CHECK.dueArgument("out of no lane" + of, () -> desk.out(alone, lane, 0));
            CHECK.dueArgument("cell of no lane" + of, () -> desk.cell(alone, lane, 0));
        }
        for (int k : new int[] {-1, 16}) {
            CHECK.dueArgument("no what" + of, () -> desk.lane(alone, 0, k));
            CHECK.dueArgument("no cell" + of, () -> desk.cell(alone, 0, k));
        }
    }

    /** Neither input nor lanes needs a kernel: they are refused only under way. */
    private static void inputsAndLanesBeforeTheKernel() {
        LaneDesk desk = new LaneDesk();
        desk.input(15, 5);
        desk.lanes(2);
        CHECK.dueArgument("input(16) of a new object", () -> desk.input(16, 5));
        CHECK.dueArgument("lanes(9) of a new object", () -> desk.lanes(9));
        Check.type(desk, "OI[15];");
        desk.compile();
        desk.start();
        CHECK.due("mask", desk.mask(), 3);
        Check.finish(desk);
        CHECK.due("the input in step", desk.out(false, 1, 0), 5);
        CHECK.due("the input alone", desk.out(true, 1, 0), 5);
    }

    private static void kernelThatIsNotStarted() {
        LaneDesk desk = Check.compiled("a=n;Oa;");
        dueNotStarted("a kernel that is not started", desk);
        dueNoResults("a kernel", desk, true);
        CHECK.due("varies", desk.varies(0), true);
        desk.input(0, 1);
        desk.lanes(8);
    }

    /** Promise 13: "0 the fuel did not do (there are no results then)", whatever was before. */
    private static void noResultsAlone() {
        LaneDesk desk = Check.compiled("a=n;Oa;");
        CHECK.due("alone(15)", desk.alone(15), 0);
        dueNoResults("fuel that did not do", desk, true);
        CHECK.due("alone(16)", desk.alone(16), 1);
        CHECK.due("results", desk.out(true, 7, 0), 7);
        CHECK.due("alone(1)", desk.alone(1), 0);
        dueNoResults("fuel that did not do any more", desk, true);
    }

    private static void resultsAloneAreNoRunInStep() {
        LaneDesk desk = Check.compiled("a=n;Oa;");
        CHECK.due("alone", desk.alone(4000), 1);
        dueNotStarted("a kernel that ran alone only", desk);
        LaneDesk other = Check.started("a=n;Oa;");
        other.run(500);
        dueNoResults("a kernel that ran in step only", other, true);
    }

    /** What a run has when it is started: all 0, and no lane that takes part is stopped. */
    private static void startedAndNothingIssued() {
        LaneDesk desk = Check.compiled("a=n;Oa;");
        desk.lanes(5);
        desk.start();
        CHECK.due("spent(0)", desk.spent(0), 0);
        CHECK.due("spent(1)", desk.spent(1), 0);
        CHECK.due("mask", desk.mask(), 31);
        for (int lane = 0; lane < 8; lane++) {
            int which = lane;
            CHECK.due("numbers of " + lane, desk.lane(false, lane, 0), 0);
            CHECK.due("trap of " + lane, desk.lane(false, lane, 1), 0);
            CHECK.due("stopped " + lane, desk.lane(false, lane, 2), lane < 5 ? 0 : 1);
            CHECK.dueIndex("out of " + lane, () -> desk.out(false, which, 0));
            for (int k = 0; k < 16; k++) {
                CHECK.due("cell " + k + " of " + lane, desk.cell(false, lane, k), 0);
            }
        }
    }

    /** Promise 4: "0 (it is the kernel now, nothing is started)", in all states of the runs before. */
    private static void newKernelHasNoRuns() {
        String text = "a=n;Oa;?n{R;}OL[9];";
        for (int issued = 0; issued <= 4; issued++) {
            LaneDesk desk = Check.started(text);
            desk.alone(4000);
            if (issued > 0) {
                desk.run(issued);
            }
            CHECK.due("compile of the same text", desk.compile(), 0);
            dueNotStarted("a kernel compiled again behind " + issued, desk);
            dueNoResults("a kernel compiled again behind " + issued, desk, true);
            desk.input(0, 1);
            desk.lanes(3);
            desk.start();
            CHECK.due("numbers of the run before", desk.lane(false, 1, 0), 0);
            CHECK.due("mask", desk.mask(), 7);
        }
    }

    /** A text without any statement: what is started is over at once. */
    private static void emptyKernel() {
        LaneDesk desk = Check.compiled("");
        CHECK.due("place", desk.place(), -1);
        for (int v = 0; v < 8; v++) {
            CHECK.due("varies(" + v + ")", desk.varies(v), false);
        }
        dueNotStarted("an empty kernel", desk);
        desk.start();
        CHECK.due("mask", desk.mask(), 0);
        desk.input(0, 1);
        desk.lanes(4);
        CHECK.due("run(1)", desk.run(1), 1);
        CHECK.due("spent(0)", desk.spent(0), 0);
        CHECK.due("spent(1)", desk.spent(1), 0);
        CHECK.due("alone(1)", desk.alone(1), 1);
        for (boolean alone : new boolean[] {false, true}) {
            CHECK.due("numbers", desk.lane(alone, 0, 0), 0);
            CHECK.due("trap", desk.lane(alone, 0, 1), 0);
            CHECK.due("at its end", desk.lane(alone, 0, 2), 1);
            CHECK.due("takes no part", desk.lane(alone, 7, 2), 1);
            CHECK.dueIndex("out", () -> desk.out(alone, 0, 0));
            CHECK.due("cell", desk.cell(alone, 0, 15), 0);
        }
    }
}
