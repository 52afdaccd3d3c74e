/** Masks that are full and that are empty, and lanes that take no part (Terms; promises 8, 11 and 14 to 16). */
public final class MaskEdgeTest {
    private static final Check CHECK = new Check();

    public static void main(String[] args) {
        firstLanesTakePart();
        lanesThatTakeNoPart();
        exchangeWithLanesThatTakeNoPart();
        fullAndEmptyChoices();
        fullAndEmptyLoops();
        choiceIsMadeOnce();
        emptyMasksArePassedOver();
        stoppedLanesComeBackNowhere();
        statementBehindHasThoseOfBefore();
        exchangeWithStoppedLanes();
        exchangeOfOneLane();
        allAreReadFirst();
        maskOfEachLane();
        whenALaneIsAtItsEnd();
        lanesStayForTheNextKernel();
        sameAloneAsInStep();
        CHECK.end();
    }

    /** The masks of all statements that are issued, with so many lanes. */
    private static LaneDesk dueMasks(int lanes, String text, int... masks) {
        LaneDesk desk = Check.compiled(text);
        desk.lanes(lanes);
        desk.start();
        int busy = 0;
        String of = " of " + text + " with " + lanes;
        for (int k = 0; k < masks.length; k++) {
            CHECK.due("mask " + k + of, desk.mask(), masks[k]);
            CHECK.due("run " + k + of, desk.run(1), k + 1 == masks.length ? 1 : 0);
            busy += Integer.bitCount(masks[k]);
            CHECK.due("busy " + k + of, desk.spent(1), busy);
            CHECK.due("issued " + k + of, desk.spent(0), k + 1);
        }
        CHECK.due("mask at the end" + of, desk.mask(), 0);
        CHECK.due("alone" + of, desk.alone(Math.max(1, busy)), 1);
        return desk;
    }

    /** "the first ones, as many as were told (8 at first), take part". */
    private static void firstLanesTakePart() {
        for (int n = 1; n <= 8; n++) {
            int all = (1 << n) - 1;
            dueMasks(n, "a=1;?1{b=1;}*c<1{c=1;}", all, all, all, all, all, all);
            dueMasks(n, "?n{R;}a=1;", n == 1 ? new int[] {1, 1} : new int[] {all, all - 1, 1});
        }
        LaneDesk desk = Check.started("a=1;");
        CHECK.due("8 at first", desk.mask(), 255);
    }

    /** "Lanes that take no part are stopped.": they have no numbers, no trap, and nothing but 0. */
    private static void lanesThatTakeNoPart() {
        for (int n = 1; n < 8; n++) {
            LaneDesk desk = dueMasks(n, "a=n+1;L[7]=9;Oa;OI[16];", (1 << n) - 1, (1 << n) - 1, (1 << n) - 1, (1 << n) - 1);
            for (boolean alone : new boolean[] {false, true}) {
                for (int lane = n; lane < 8; lane++) {
                    int which = lane;
                    CHECK.due("numbers of " + lane, desk.lane(alone, lane, 0), 0);
                    CHECK.due("trap of " + lane, desk.lane(alone, lane, 1), 0);
                    CHECK.due("stopped " + lane, desk.lane(alone, lane, 2), 1);
                    CHECK.dueIndex("out of " + lane, () -> desk.out(alone, which, 0));
                    CHECK.due("cell of " + lane, desk.cell(alone, lane, 7), 0);
                    CHECK.due("a of " + lane, desk.cell(alone, lane, 8), 0);
                }
                CHECK.due("the last one that takes part", desk.lane(alone, n - 1, 1), 17);
                CHECK.due("and its number", desk.out(alone, n - 1, 0), n);
            }
        }
        LaneDesk before = Check.done("a=5;L[0]=6;O7;OL[8];");
        before.lanes(1);
        CHECK.due("what was in step stays", before.lane(false, 7, 1), 15);
        CHECK.due("what was alone stays", before.out(true, 7, 0), 7);
        before.start();
        CHECK.due("nothing of the run before: a", before.cell(false, 7, 8), 0);
        CHECK.due("nothing of the run before: trap", before.lane(false, 7, 1), 0);
        CHECK.due("nothing of the run before: numbers", before.lane(false, 7, 0), 0);
        CHECK.due("stopped at once", before.lane(false, 7, 2), 1);
        before.alone(4);
        CHECK.due("nothing of the run alone before", before.cell(true, 7, 0), 0);
    }

    private static void exchangeWithLanesThatTakeNoPart() {
        for (int n = 1; n <= 8; n++) {
            int all = (1 << n) - 1;
            for (int turn = 0; turn < 8; turn++) {
                LaneDesk desk = dueMasks(n, "a=n+1;b=99;Xban+" + turn + ";", all, all, all);
                for (boolean alone : new boolean[] {false, true}) {
                    for (int lane = 0; lane < 8; lane++) {
                        int source = (lane + turn) % 8;
                        int want = lane >= n ? 0 : source < n ? source + 1 : 0;
                        CHECK.due("b of " + lane + " of " + n + " turned by " + turn, desk.cell(alone, lane, 9), want);
                    }
                }
            }
        }
    }

    /** All, none, or one of the lanes for the first block. */
    private static void fullAndEmptyChoices() {
        dueMasks(8, "?1{a=1;}{b=1;}c=1;", 255, 255, 255);
        dueMasks(8, "?0{a=1;}{b=1;}c=1;", 255, 255, 255);
        dueMasks(8, "?0{a=1;}c=1;", 255, 255);
        dueMasks(8, "?0{a=1;}{}c=1;", 255, 255);
        dueMasks(8, "?1{}{b=1;}c=1;", 255, 255);
        dueMasks(8, "?n=0{a=1;}{b=1;}c=1;", 255, 1, 254, 255);
        dueMasks(8, "?n=7{a=1;}{b=1;}c=1;", 255, 128, 127, 255);
        dueMasks(8, "?n-7{a=1;}{b=1;}c=1;", 255, 127, 128, 255);
        dueMasks(8, "?n=8{a=1;}{b=1;}c=1;", 255, 255, 255);
        dueMasks(1, "?n{a=1;}{b=1;}c=1;", 1, 1, 1);
        dueMasks(7, "?n=7{a=1;}c=1;", 127, 127);
    }

    /** E is reckoned when ? is issued: what its first block gives does not count for its second one. */
    private static void choiceIsMadeOnce() {
        dueMasks(8, "?a=0{a=1;}{b=1;}c=1;", 255, 255, 255);
        dueMasks(8, "?n<4-a{a=1;}{a=2;}?a=1{b=1;}{c=1;}", 255, 15, 240, 255, 15, 240);
        LaneDesk desk = dueMasks(8, "?L[0]{L[0]=0;}{L[0]=L[0]+1;}?L[0]{L[0]=0;}{L[0]=9;}", 255, 255, 255, 255);
        CHECK.due("cell 0", desk.cell(false, 0, 0), 0);
        CHECK.due("cell 0 alone", desk.cell(true, 0, 0), 0);
    }

    /** "* is issued; then its block with those for which E was not 0, and again with these, until there are none." */
    private static void fullAndEmptyLoops() {
        dueMasks(8, "*0{a=1;}b=1;", 255, 255);
        dueMasks(8, "*n=8{a=1;}b=1;", 255, 255);
        dueMasks(8, "*a=0{a=1;}b=1;", 255, 255, 255, 255);
        dueMasks(8, "*1-a{a=1;}b=1;", 255, 255, 255, 255);
        dueMasks(8, "*n<1-a{a=1;}b=1;", 255, 1, 1, 255);
        dueMasks(8, "*n=7&(a=0){a=1;}b=1;", 255, 128, 128, 255);
        dueMasks(8, "*1{R;}b=1;", 255, 255);
        dueMasks(8, "*a<14{?n=a{R;}a=a+7;}b=1;", 255, 255, 1, 254, 254, 254, 128, 126, 126, 126);
    }

    /** "(otherwise it is passed over)": each kind of statement, within blocks and behind the last lane. */
    private static void emptyMasksArePassedOver() {
        String all = "a=1;O1;L[0]=1;Xab0;R;?1{a=1;}{a=2;}*1{a=1;}a=I[16];L[8]=1;?I[16]{}*I[16]{}";
        LaneDesk block = dueMasks(8, "?0{" + all + "}b=3;", 255, 255);
        LaneDesk second = dueMasks(8, "?1{}{" + all + "}b=3;", 255, 255);
        LaneDesk loop = dueMasks(8, "*0{" + all + "}b=3;", 255, 255);
        LaneDesk deep = dueMasks(8, "?0{}{*0{?1{" + all.replace("{a=1;}{a=2;}", "{}") + "}}}b=3;", 255, 255, 255);
        for (LaneDesk desk : new LaneDesk[] {block, second, loop, deep}) {
            for (boolean alone : new boolean[] {false, true}) {
                CHECK.due("a", desk.cell(alone, 0, 8), 0);
                CHECK.due("b", desk.cell(alone, 0, 9), 3);
                CHECK.due("cell 0", desk.cell(alone, 0, 0), 0);
                CHECK.due("numbers", desk.lane(alone, 0, 0), 0);
                CHECK.due("trap", desk.lane(alone, 0, 1), 0);
            }
        }
        dueMasks(8, "R;" + all, 255);
    }

    /** "behind each statement those that are stopped are in no mask any more". */
    private static void stoppedLanesComeBackNowhere() {
        dueMasks(8, "?n<4{?n<2{R;}a=1;}{?n<6{R;}b=1;}c=1;", 255, 15, 3, 12, 240, 48, 192, 204);
        dueMasks(8, "?n=0{R;}?n=1{R;}?n=2{R;}?n=3{R;}a=1;", 255, 1, 254, 2, 252, 4, 248, 8, 240);
        dueMasks(8, "*a<2{a=a+1;?n=a{R;}}b=1;", 255, 255, 255, 2, 253, 253, 253, 4, 249, 249);
        dueMasks(8, "?1{?1{?1{?n{R;}}}}a=1;", 255, 255, 255, 255, 254, 1);
        dueMasks(8, "?n<4{*n{R;}}{*1{?n{R;}}}a=1;", 255, 15, 14, 240, 240, 240, 1);
        dueMasks(8, "*n{a=a+1;?a=n{R;}}b=1;", 255, 254, 254, 2, 252, 252, 252, 4, 248, 248, 248, 8, 240, 240, 240, 16,
                224, 224, 224, 32, 192, 192, 192, 64, 128, 128, 128, 128, 1);
    }

    /** "the statement behind it has those of before". */
    private static void statementBehindHasThoseOfBefore() {
        dueMasks(8, "?n<6{?n<3{a=1;}b=1;}{c=1;}d=1;", 255, 63, 7, 63, 192, 255);
        dueMasks(8, "?n<6{*a<n{a=a+3;}b=1;}d=1;", 255, 63, 62, 62, 48, 48, 63, 255);
        dueMasks(8, "*a<n{a=a+4;?n<6{b=1;}c=1;}d=1;", 255, 254, 254, 62, 254, 254, 224, 224, 32, 224, 224,
                255);
        dueMasks(8, "?n<4{?n<2{}{}?n<3{}{}}{?n<6{}{}}a=1;", 255, 15, 15, 240, 255);
    }

    /** "lane E's w, if that lane is in the mask", whatever w it had before it was stopped. */
    private static void exchangeWithStoppedLanes() {
        LaneDesk desk = dueMasks(8, "a=n+1;b=99;?n&1{R;}Xban+1;Xcan+2;Xdan;", 255, 255, 255, 170, 85, 85, 85);
        for (boolean alone : new boolean[] {false, true}) {
            for (int lane = 0; lane < 8; lane++) {
                boolean on = lane % 2 == 0;
                CHECK.due("of a lane that is done: " + lane, desk.cell(alone, lane, 9), on ? 0 : 99);
                CHECK.due("of a lane that is not: " + lane, desk.cell(alone, lane, 10), on ? (lane + 2) % 8 + 1 : 0);
                CHECK.due("of itself: " + lane, desk.cell(alone, lane, 11), on ? lane + 1 : 0);
                CHECK.due("w stays: " + lane, desk.cell(alone, lane, 8), lane + 1);
            }
        }
    }

    private static void exchangeOfOneLane() {
        LaneDesk desk = dueMasks(1, "a=5;Xba0;Xca1;Xda8;Xea0-8;Xfa7;", 1, 1, 1, 1, 1, 1);
        int[] want = {5, 5, 0, 5, 5, 0};
        for (boolean alone : new boolean[] {false, true}) {
            for (int v = 0; v < 6; v++) {
                CHECK.due("variable " + v, desk.cell(alone, 0, 8 + v), want[v]);
            }
        }
        LaneDesk last = dueMasks(8, "a=n;?n-7{R;}Xba7;Xca0;", 255, 255, 127, 128, 128);
        for (boolean alone : new boolean[] {false, true}) {
            CHECK.due("the only lane of itself", last.cell(alone, 7, 9), 7);
            CHECK.due("the only lane of another", last.cell(alone, 7, 10), 0);
        }
    }

    /** "all w are read first", also when v is w and when E names v. */
    private static void allAreReadFirst() {
        LaneDesk desk = dueMasks(8, "a=n;Xaaa+1;Xaa7-n;b=n;Xbbb-1;", 255, 255, 255, 255, 255);
        for (boolean alone : new boolean[] {false, true}) {
            for (int lane = 0; lane < 8; lane++) {
                CHECK.due("a of " + lane, desk.cell(alone, lane, 8), (8 - lane) % 8);
                CHECK.due("b of " + lane, desk.cell(alone, lane, 9), (lane + 7) % 8);
            }
        }
    }

    /** "a bit each": lane 0 is the lowest one. */
    private static void maskOfEachLane() {
        for (int lane = 0; lane < 8; lane++) {
            LaneDesk desk = Check.started("?n=" + lane + "{a=1;}");
            desk.run(1);
            CHECK.due("mask of lane " + lane, desk.mask(), 1 << lane);
        }
    }

    /** "whether it is stopped (1, 0; also at its end)": the run in step is at its end when it is over. */
    private static void whenALaneIsAtItsEnd() {
        LaneDesk desk = Check.started("?n=0{R;}a=1;?n=1{b=I[16];}c=1;");
        int[][] want = {{0, 0, 0}, {0, 0, 0}, {1, 0, 0}, {1, 0, 0}, {1, 0, 0}, {1, 1, 0}, {1, 1, 1}};
        for (int issued = 0; issued <= 6; issued++) {
            for (int lane = 0; lane < 3; lane++) {
                CHECK.due("stopped " + lane + " behind " + issued, desk.lane(false, lane, 2), want[issued][lane]);
            }
            CHECK.due("over behind " + (issued + 1), desk.run(1), issued >= 5 ? 1 : 0);
        }
    }

    private static void lanesStayForTheNextKernel() {
        LaneDesk desk = Check.compiled("a=1;");
        desk.lanes(3);
        desk.input(2, 22);
        desk.clear();
        Check.type(desk, "OI[2];");
        desk.compile();
        desk.start();
        CHECK.due("three lanes", desk.mask(), 7);
        Check.finish(desk);
        CHECK.due("the input", desk.out(true, 2, 0), 22);
        CHECK.due("the fourth", desk.lane(true, 3, 0), 0);
    }

    /** "and each lane does it alone, for comparison": both runs have the same results. */
    private static void sameAloneAsInStep() {
        String text = "a=n*3;*a{a=a-1;?a&1{Oa;}{L[a&7]=a;}}?n=5{R;}Xbcn+1;c=L[n]+I[n];Xdcn-1;?n=6{d=L[d+9];}Od;";
        for (int n = 1; n <= 8; n++) {
            LaneDesk desk = Check.compiled(text);
            desk.lanes(n);
            desk.input(4, -4);
            desk.start();
            Check.finish(desk);
            for (int lane = 0; lane < 8; lane++) {
                for (int k = 0; k < 16; k++) {
                    CHECK.due("cell " + k + " of " + lane, desk.cell(true, lane, k), desk.cell(false, lane, k));
                }
                for (int what = 0; what < 3; what++) {
                    CHECK.due("what " + what + " of " + lane, desk.lane(true, lane, what), desk.lane(false, lane, what));
                }
            }
        }
    }
}
