/** Promises 14 to 16. */
public final class ResultsTest {
    private static final Check CHECK = new Check();

    public static void main(String[] args) {
        laneInStep();
        laneAlone();
        wrongLanes();
        kept();
        wrongNumbers();
        cells();
        CHECK.end();
    }

    private static void laneInStep() {
        LaneDesk desk = Check.compiled("?n<2{R;}On;?n<4{OL[8];}On;");
        desk.lanes(6);
        desk.start();
        dueLane(desk, false, 0, 0, 0, 0);
        dueLane(desk, false, 6, 0, 0, 1);
        desk.run(2);
        dueLane(desk, false, 1, 0, 0, 1);
        dueLane(desk, false, 2, 0, 0, 0);
        desk.run(3);
        dueLane(desk, false, 2, 1, 17, 1);
        dueLane(desk, false, 4, 1, 0, 0);
        CHECK.due("run", desk.run(1), 1);
        dueLane(desk, false, 4, 2, 0, 1);
        dueLane(desk, false, 7, 0, 0, 1);
        LaneDesk joined = Check.started("?n<4{a=1;}{b=1;}");
        joined.run(2);
        dueLane(joined, false, 0, 0, 0, 0);
        joined.run(1);
        dueLane(joined, false, 0, 0, 0, 1);
        dueLane(Check.started(""), false, 0, 0, 0, 1);
    }

    private static void laneAlone() {
        LaneDesk desk = Check.compiled("?n<2{R;}On;?n<4{OL[8];}On;");
        desk.lanes(6);
        desk.alone(4000);
        dueLane(desk, true, 1, 0, 0, 1);
        dueLane(desk, true, 2, 1, 17, 1);
        dueLane(desk, true, 4, 2, 0, 1);
        dueLane(desk, true, 6, 0, 0, 1);
    }

    private static void dueLane(LaneDesk desk, boolean alone, int lane, int count, int trap, int stopped) {
        String call = "lane(" + alone + ", " + lane + ", ";
        CHECK.due(call + "0)", desk.lane(alone, lane, 0), count);
        CHECK.due(call + "1)", desk.lane(alone, lane, 1), trap);
        CHECK.due(call + "2)", desk.lane(alone, lane, 2), stopped);
    }

    private static void wrongLanes() {
        LaneDesk desk = Check.compiled("O1;");
        for (int k = 0; k < 2; k++) {
            for (boolean alone : new boolean[] {false, true}) {
                for (int lane : new int[] {-1, 8, 32, Integer.MIN_VALUE, Integer.MAX_VALUE}) {
                    CHECK.dueArgument("lane of " + lane, () -> desk.lane(alone, lane, 0));
                    CHECK.dueArgument("out of " + lane, () -> desk.out(alone, lane, 0));
                    CHECK.dueArgument("cell of " + lane, () -> desk.cell(alone, lane, 0));
                }
                CHECK.dueArgument("what -1", () -> desk.lane(alone, 0, -1));
                CHECK.dueArgument("what 3", () -> desk.lane(alone, 0, 3));
                CHECK.dueArgument("cell -1", () -> desk.cell(alone, 0, -1));
                CHECK.dueArgument("cell 16", () -> desk.cell(alone, 0, 16));
            }
            desk.start();
            desk.alone(4000);
        }
        LaneDesk apart = Check.compiled("O1;");
        apart.alone(4000);
        CHECK.dueState("lane of a run that is not started", () -> apart.lane(false, 0, 0));
        CHECK.dueState("out of it goes before no number", () -> apart.out(false, 0, 9));
        CHECK.dueState("cell of it", () -> apart.cell(false, 0, 0));
        LaneDesk inStep = Check.started("O1;");
        CHECK.dueState("lane without results", () -> inStep.lane(true, 0, 0));
        CHECK.dueState("out without results goes before no number", () -> inStep.out(true, 0, 9));
        CHECK.dueState("cell without results", () -> inStep.cell(true, 0, 0));
    }

    private static void kept() {
        LaneDesk desk = Check.compiled("*a<(n+17){a=a+1;O(a*100+n);}");
        desk.start();
        desk.run(500);
        desk.alone(4000);
        for (boolean alone : new boolean[] {false, true}) {
            for (int lane = 0; lane < 8; lane++) {
                int which = lane;
                int count = lane + 17;
                CHECK.due("numbers of " + lane, desk.lane(alone, lane, 0), count);
                for (int k = 0; k < Math.min(20, count); k++) {
                    CHECK.due("number " + k + " of " + lane, desk.out(alone, lane, k), (k + 1) * 100 + lane);
                }
                CHECK.dueIndex("none, or not kept", () -> desk.out(alone, which, Math.min(20, count)));
                CHECK.dueIndex("the last, or none", () -> desk.out(alone, which, Math.max(20, count - 1)));
            }
        }
    }

    private static void wrongNumbers() {
        LaneDesk desk = Check.started("On+5;O7;");
        CHECK.dueIndex("nothing yet", () -> desk.out(false, 0, 0));
        desk.run(1);
        CHECK.due("the first one", desk.out(false, 4, 0), 9);
        CHECK.dueIndex("-1", () -> desk.out(false, 0, -1));
        CHECK.dueIndex("1", () -> desk.out(false, 0, 1));
        CHECK.dueIndex("20", () -> desk.out(false, 0, 20));
        CHECK.dueIndex("least", () -> desk.out(false, 0, Integer.MIN_VALUE));
        CHECK.dueIndex("most", () -> desk.out(false, 0, Integer.MAX_VALUE));
        desk.start();
        CHECK.dueIndex("nothing when it is started anew", () -> desk.out(false, 4, 0));
    }

    private static void cells() {
        LaneDesk desk = Check.compiled("*a<8{L[a]=n*10+a;a=a+1;}"
                + "b=1+n;c=2+n;d=3+n;e=4+n;f=5+n;g=6+n;h=7+n;");
        desk.start();
        desk.run(500);
        desk.alone(4000);
        for (boolean alone : new boolean[] {false, true}) {
            for (int lane = 0; lane < 8; lane++) {
                for (int k = 0; k < 8; k++) {
                    CHECK.due("cell " + k + " of " + lane, desk.cell(alone, lane, k), lane * 10 + k);
                    int want = k == 0 ? 8 : lane + k;
                    CHECK.due("variable " + k + " of " + lane, desk.cell(alone, lane, k + 8), want);
                }
            }
        }
        LaneDesk under = Check.started("a=n;L[1]=a+1;");
        under.run(1);
        CHECK.due("a variable under way", under.cell(false, 6, 8), 6);
        CHECK.due("a cell under way", under.cell(false, 6, 1), 0);
    }
}
