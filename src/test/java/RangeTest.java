/** Each range of a parameter of promises 6 to 16: just inside it, just outside it on both sides, the ends of int. */
public final class RangeTest {
    private static final Check CHECK = new Check();
    private static final String FOUR_LANES_PUT_OUT = "*a<20{a=a+1;?n<4{Oa;}}";

    public static void main(String[] args) {
        variables();
        inputs();
        inputValues();
        lanesThatTakePart();
        fuelInStep();
        whatWasSpent();
        fuelAlone();
        lanesAndWhats();
        numbersPutOut();
        cellsAndVariables();
        CHECK.end();
    }

    /** "IllegalArgumentException: there is no such variable." */
    private static void variables() {
        LaneDesk desk = Check.compiled("a=n;h=n;");
        CHECK.due("varies(0)", desk.varies(0), true);
        CHECK.due("varies(1)", desk.varies(1), false);
        CHECK.due("varies(6)", desk.varies(6), false);
        CHECK.due("varies(7)", desk.varies(7), true);
        for (int v : Check.outside(0, 7)) {
            CHECK.dueArgument("varies(" + v + ")", () -> desk.varies(v));
        }
    }

    /** "Input i becomes v. IllegalArgumentException: there is none". */
    private static void inputs() {
        LaneDesk desk = Check.compiled("*a<16{b=b*3+I[a];a=a+1;}");
        int sum = 0;
        for (int i = 0; i < 16; i++) {
            desk.input(i, i * i + 1);
            sum = sum * 3 + i * i + 1;
        }
        for (int i : Check.outside(0, 15)) {
            CHECK.dueArgument("input(" + i + ")", () -> desk.input(i, 1));
        }
        desk.start();
        Check.finish(desk);
        CHECK.due("all sixteen in step", desk.cell(false, 7, 9), sum);
        CHECK.due("all sixteen alone", desk.cell(true, 7, 9), sum);
    }

    /** An input may be any int. */
    private static void inputValues() {
        for (int v : new int[] {Integer.MIN_VALUE, -1, 0, 1, Integer.MAX_VALUE}) {
            for (int i : new int[] {0, 15}) {
                LaneDesk desk = Check.compiled("OI[" + i + "];OI[" + (15 - i) + "];");
                desk.input(i, v);
                desk.start();
                Check.finish(desk);
                for (boolean alone : new boolean[] {false, true}) {
                    CHECK.due("input " + i + " is " + v, desk.out(alone, 0, 0), v);
                    CHECK.due("the other one is 0", desk.out(alone, 0, 1), 0);
                }
            }
        }
    }

    /** "So many lanes (1 .. 8) take part." */
    private static void lanesThatTakePart() {
        LaneDesk desk = Check.compiled("a=1;");
        for (int n : new int[] {8, 1, 7, 2, 8}) {
            desk.lanes(n);
            for (int wrong : Check.outside(1, 8)) {
                CHECK.dueArgument("lanes(" + wrong + ")", () -> desk.lanes(wrong));
            }
            desk.start();
            CHECK.due("mask of lanes(" + n + ")", desk.mask(), (1 << n) - 1);
            desk.run(1);
        }
    }

    /** "for so much fuel (1 .. 500)". */
    private static void fuelInStep() {
        LaneDesk desk = Check.started("*1{}");
        for (int fuel : Check.outside(1, 500)) {
            CHECK.dueArgument("run(" + fuel + ")", () -> desk.run(fuel));
        }
        CHECK.due("nothing is issued by that", desk.spent(0), 0);
        CHECK.due("run(1)", desk.run(1), 0);
        CHECK.due("one is issued", desk.spent(0), 1);
        CHECK.due("run(500)", desk.run(500), 0);
        CHECK.due("500 more are issued", desk.spent(0), 501);
        CHECK.due("run(499)", desk.run(499), 0);
        CHECK.due("499 more are issued", desk.spent(0), 1000);
        LaneDesk over = Check.started("");
        for (int fuel : Check.outside(1, 500)) {
            CHECK.dueArgument("run(" + fuel + ") when it is over", () -> over.run(fuel));
        }
        CHECK.due("run(1) when it is over", over.run(1), 1);
        CHECK.due("run(500) when it is over", over.run(500), 1);
    }

    /** "IllegalArgumentException: there is no such what". */
    private static void whatWasSpent() {
        LaneDesk desk = Check.started("a=1;b=1;");
        desk.run(1);
        CHECK.due("spent(0)", desk.spent(0), 1);
        CHECK.due("spent(1)", desk.spent(1), 8);
        for (int what : Check.outside(0, 1)) {
            CHECK.dueArgument("spent(" + what + ")", () -> desk.spent(what));
        }
    }

    /** "with so much fuel (1 .. 4000)". */
    private static void fuelAlone() {
        LaneDesk desk = Check.compiled("a=1;");
        desk.lanes(1);
        CHECK.due("alone(1)", desk.alone(1), 1);
        CHECK.due("alone(4000)", desk.alone(4000), 1);
        for (int fuel : Check.outside(1, 4000)) {
            CHECK.dueArgument("alone(" + fuel + ")", () -> desk.alone(fuel));
        }
        CHECK.due("the results before stay", desk.cell(true, 0, 8), 1);
    }

    /** "IllegalArgumentException: no such lane or what". */
    private static void lanesAndWhats() {
        LaneDesk desk = Check.done(FOUR_LANES_PUT_OUT);
        for (boolean alone : new boolean[] {false, true}) {
            for (int lane = 0; lane < 8; lane++) {
                CHECK.due("lane(" + alone + ", " + lane + ", 0)", desk.lane(alone, lane, 0), lane < 4 ? 20 : 0);
                CHECK.due("lane(" + alone + ", " + lane + ", 1)", desk.lane(alone, lane, 1), 0);
                CHECK.due("lane(" + alone + ", " + lane + ", 2)", desk.lane(alone, lane, 2), 1);
            }
            for (int lane : Check.outside(0, 7)) {
                for (int what = -1; what <= 3; what++) {
                    int which = what;
                    CHECK.dueArgument("lane " + lane + ", what " + what, () -> desk.lane(alone, lane, which));
                }
            }
            for (int what : Check.outside(0, 2)) {
                CHECK.dueArgument("lane 0, what " + what, () -> desk.lane(alone, 0, what));
                CHECK.dueArgument("lane 7, what " + what, () -> desk.lane(alone, 7, what));
            }
        }
    }

    /** "IndexOutOfBoundsException: there is none, or it was not kept." A wrong lane is told before that. */
    private static void numbersPutOut() {
        LaneDesk desk = Check.done(FOUR_LANES_PUT_OUT);
        for (boolean alone : new boolean[] {false, true}) {
            for (int lane : new int[] {0, 3}) {
                CHECK.due("the first of lane " + lane, desk.out(alone, lane, 0), 1);
                CHECK.due("the last of lane " + lane, desk.out(alone, lane, 19), 20);
                for (int k : Check.outside(0, 19)) {
                    CHECK.dueIndex("number " + k + " of lane " + lane, () -> desk.out(alone, lane, k));
                }
            }
            for (int k : new int[] {Integer.MIN_VALUE, -1, 0, 1, 19, 20, Integer.MAX_VALUE}) {
                CHECK.dueIndex("number " + k + " of a lane that put out none", () -> desk.out(alone, 4, k));
            }
            for (int lane : Check.outside(0, 7)) {
                for (int k : new int[] {-1, 0, 20}) {
                    CHECK.dueArgument("number " + k + " of lane " + lane, () -> desk.out(alone, lane, k));
                }
            }
        }
    }

    /** "Own cell k of a lane (k 0 .. 7), or variable k - 8 (k 8 .. 15)." */
    private static void cellsAndVariables() {
        LaneDesk desk = Check.done("L[0]=n+10;L[7]=n+20;a=n+30;h=n+40;");
        for (boolean alone : new boolean[] {false, true}) {
            for (int lane : new int[] {0, 7}) {
                for (int k = 0; k < 16; k++) {
                    int want = k == 0 ? lane + 10 : k == 7 ? lane + 20 : k == 8 ? lane + 30 : k == 15 ? lane + 40 : 0;
                    CHECK.due("cell(" + alone + ", " + lane + ", " + k + ")", desk.cell(alone, lane, k), want);
                }
                for (int k : Check.outside(0, 15)) {
                    CHECK.dueArgument("cell " + k + " of lane " + lane, () -> desk.cell(alone, lane, k));
                }
            }
            for (int lane : Check.outside(0, 7)) {
                for (int k : new int[] {-1, 0, 15, 16}) {
                    CHECK.dueArgument("cell " + k + " of lane " + lane, () -> desk.cell(alone, lane, k));
                }
            }
        }
    }
}
