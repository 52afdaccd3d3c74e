/** Promises 7 and 8. */
public final class SettingTest {
    private static final Check CHECK = new Check();

    public static void main(String[] args) {
        inputs();
        inputsUnderWay();
        lanes();
        lanesUnderWay();
        CHECK.end();
    }

    private static void inputs() {
        LaneDesk desk = new LaneDesk();
        desk.input(0, 5);
        desk.input(15, Integer.MIN_VALUE);
        desk.input(7, 1);
        desk.input(7, -1);
        Check.type(desk, "OI[0];OI[7];OI[15];OI[14];");
        desk.compile();
        desk.start();
        desk.run(4);
        CHECK.due("input 0", desk.out(false, 3, 0), 5);
        CHECK.due("input 7, given twice", desk.out(false, 3, 1), -1);
        CHECK.due("input 15", desk.out(false, 3, 2), Integer.MIN_VALUE);
        CHECK.due("input 14", desk.out(false, 3, 3), 0);
        CHECK.dueArgument("-1", () -> desk.input(-1, 0));
        CHECK.dueArgument("16", () -> desk.input(16, 0));
        CHECK.dueArgument("least", () -> desk.input(Integer.MIN_VALUE, 0));
        desk.input(0, 6);
        CHECK.due("what is put out already stays", desk.out(false, 3, 0), 5);
        desk.alone(4000);
        CHECK.due("the run alone has the new input", desk.out(true, 3, 0), 6);
    }

    private static void inputsUnderWay() {
        LaneDesk desk = Check.compiled("a=I[0];b=I[0];");
        desk.input(0, 1);
        desk.start();
        CHECK.dueState("input when it is started", () -> desk.input(0, 2));
        CHECK.dueArgument("a wrong input goes before that", () -> desk.input(16, 2));
        desk.run(1);
        CHECK.dueState("input when it has gone on", () -> desk.input(0, 2));
        desk.alone(16);
        CHECK.due("what is refused is not done", desk.cell(true, 0, 8), 1);
        CHECK.due("it is over", desk.run(1), 1);
        desk.input(0, 3);
        desk.start();
        desk.run(1);
        CHECK.due("the new input", desk.cell(false, 0, 8), 3);
        desk.compile();
        desk.input(0, 4);
        LaneDesk empty = Check.started("");
        empty.input(0, 1);
        empty.lanes(1);
    }

    private static void lanes() {
        for (int n = 1; n <= 8; n++) {
            LaneDesk desk = Check.compiled("a=1;On;");
            desk.lanes(n);
            desk.start();
            CHECK.due("mask of " + n, desk.mask(), (1 << n) - 1);
            desk.run(2);
            CHECK.due("busy with " + n, desk.spent(1), 2 * n);
            CHECK.due("alone for too little", desk.alone(Math.max(1, 2 * n - 1)), 0);
            CHECK.due("alone", desk.alone(2 * n), 1);
            for (int lane = 0; lane < 8; lane++) {
                CHECK.due("numbers of " + lane, desk.lane(false, lane, 0), lane < n ? 1 : 0);
                CHECK.due("numbers alone of " + lane, desk.lane(true, lane, 0), lane < n ? 1 : 0);
                CHECK.due("a of " + lane, desk.cell(false, lane, 8), lane < n ? 1 : 0);
                CHECK.due("a alone of " + lane, desk.cell(true, lane, 8), lane < n ? 1 : 0);
            }
        }
        LaneDesk desk = Check.compiled("a=n+1;Xban+3;");
        desk.lanes(5);
        desk.start();
        desk.run(2);
        CHECK.due("a lane that takes no part gives 0", desk.cell(false, 2, 9), 0);
        CHECK.due("a lane that takes part gives its own", desk.cell(false, 1, 9), 5);
        CHECK.due("lanes 5 .. 7 come round", desk.cell(false, 4, 9), 0);
        CHECK.dueArgument("0", () -> desk.lanes(0));
        CHECK.dueArgument("9", () -> desk.lanes(9));
        CHECK.dueArgument("-1", () -> desk.lanes(-1));
    }

    private static void lanesUnderWay() {
        LaneDesk desk = Check.compiled("a=1;b=1;");
        desk.lanes(2);
        desk.start();
        CHECK.dueState("lanes when it is started", () -> desk.lanes(3));
        CHECK.dueArgument("a wrong number goes before that", () -> desk.lanes(9));
        desk.run(1);
        CHECK.dueState("lanes when it has gone on", () -> desk.lanes(3));
        CHECK.due("what is refused is not done", desk.mask(), 3);
        desk.run(1);
        desk.lanes(3);
        CHECK.due("the run that is over stays", desk.cell(false, 2, 8), 0);
        desk.start();
        CHECK.due("the next one has three", desk.mask(), 7);
    }
}
