/** Numbers at their ends: wrap-arounds, what is 0 and what is not, lane E modulo 8, and how many are kept. */
public final class NumberEdgeTest {
    private static final Check CHECK = new Check();
    private static final int LEAST = Integer.MIN_VALUE;
    private static final int MOST = Integer.MAX_VALUE;
    private static final int[] EDGES = {
        LEAST, LEAST + 1, -65536, -46341, -46340, -2, -1, 0, 1, 2, 46340, 46341, 65535, 65536, MOST - 1, MOST};

    public static void main(String[] args) {
        wrappingRound();
        reckonedFromTheLeft();
        wrapAroundInARun();
        notZero();
        loopWhileNotZero();
        laneModuloEight();
        laneModuloEightByLane();
        anyNumberIsPutOut();
        atMostTwentyAreKept();
        theOthersAreCounted();
        CHECK.end();
    }

    private static LaneDesk done(String text, int first, int second) {
        LaneDesk desk = Check.compiled(text);
        desk.input(0, first);
        desk.input(1, second);
        desk.start();
        Check.finish(desk);
        return desk;
    }

    private static void dueOut(String what, LaneDesk desk, int lane, int k, int want) {
        CHECK.due(what + " in step", desk.out(false, lane, k), want);
        CHECK.due(what + " alone", desk.out(true, lane, k), want);
    }

    /** "ints, wrapping round; < and = give 1 or 0". */
    private static void wrappingRound() {
        for (int a : EDGES) {
            for (int b : EDGES) {
                LaneDesk desk = done("a=I[0];b=I[1];Oa+b;Oa-b;Oa*b;Oa<b;Oa=b;Oa&b;", a, b);
                String of = " of " + a + " and " + b;
                dueOut("+" + of, desk, 0, 0, a + b);
                dueOut("-" + of, desk, 0, 1, a - b);
                dueOut("*" + of, desk, 0, 2, a * b);
                dueOut("<" + of, desk, 0, 3, a < b ? 1 : 0);
                dueOut("=" + of, desk, 0, 4, a == b ? 1 : 0);
                dueOut("&" + of, desk, 0, 5, a & b);
            }
        }
    }

    /** "terms with one of + - * < = & between, reckoned from the left". */
    private static void reckonedFromTheLeft() {
        String operators = "+-*<=&";
        int[][] triples = {{7, 3, 2}, {MOST, 1, LEAST}, {LEAST, -1, MOST}, {1, 1, 1}, {0, 5, -5}, {6, 5, 4}};
        for (int[] of : triples) {
            for (char first : operators.toCharArray()) {
                for (char second : operators.toCharArray()) {
                    String plain = "O(I[0])" + first + "I[1]" + second + "I[2];";
                    String right = "OI[0]" + first + "(I[1]" + second + "I[2]);";
                    LaneDesk desk = Check.compiled(plain + right);
                    for (int k = 0; k < 3; k++) {
                        desk.input(k, of[k]);
                    }
                    desk.start();
                    Check.finish(desk);
                    dueOut(plain, desk, 0, 0, joined(joined(of[0], first, of[1]), second, of[2]));
                    dueOut(right, desk, 0, 1, joined(of[0], first, joined(of[1], second, of[2])));
                }
            }
        }
    }

    private static int joined(int left, char operator, int right) {
        switch (operator) {
            case '+': return left + right;
            case '-': return left - right;
            case '*': return left * right;
            case '<': return left < right ? 1 : 0;
            case '=': return left == right ? 1 : 0;
            default: return left & right;
        }
    }

    /** A variable and a cell go over the ends of int, too. */
    private static void wrapAroundInARun() {
        LaneDesk up = done("a=I[0];*a<0=0{a=a+1;}L[0]=a;L[1]=L[0]-1;Oa;OL[1];", MOST - 2, 0);
        dueOut("behind the largest", up, 3, 0, LEAST);
        dueOut("and back", up, 3, 1, MOST);
        CHECK.due("the cell", up.cell(false, 3, 0), LEAST);
        CHECK.due("the cell alone", up.cell(true, 3, 1), MOST);
        LaneDesk power = done("a=1;*b<31{b=b+1;a=a*2;}Oa;a=a*2;Oa;", 0, 0);
        dueOut("two to the 31st", power, 0, 0, LEAST);
        dueOut("two to the 32nd", power, 0, 1, 0);
        LaneDesk square = done("a=999*999*999*999;Oa;O0-a*a;", 0, 0);
        int much = (int) (999L * 999 * 999 * 999);
        dueOut("999 four times", square, 0, 0, much);
        dueOut("that below 0, and squared", square, 0, 1, -much * much);
    }

    /** "the first ones when E is not 0, otherwise the second ones". */
    private static void notZero() {
        for (int value : EDGES) {
            LaneDesk desk = done("?I[0]{O1;}{O2;}?I[0]{O3;}?I[0]{}{O4;}O5;", value, 0);
            dueOut("? " + value, desk, 7, 0, value != 0 ? 1 : 2);
            dueOut("? " + value, desk, 7, 1, value != 0 ? 3 : 4);
            dueOut("? " + value, desk, 7, 2, 5);
            CHECK.due("numbers of ? " + value, desk.lane(false, 7, 0), 3);
        }
    }

    /** "again and again while E is not 0". */
    private static void loopWhileNotZero() {
        for (int value : EDGES) {
            LaneDesk desk = done("a=I[0];*a{Oa;a=0;}Oa;", value, 0);
            CHECK.due("numbers of * " + value, desk.lane(false, 7, 0), value != 0 ? 2 : 1);
            CHECK.due("numbers of * " + value + " alone", desk.lane(true, 7, 0), value != 0 ? 2 : 1);
            dueOut("* " + value, desk, 7, 0, value);
            CHECK.due("issued", desk.spent(0), value != 0 ? 6 : 3);
        }
    }

    /** "what w is in lane E modulo 8 (rounded down)". */
    private static void laneModuloEight() {
        for (int value : new int[] {LEAST, LEAST + 1, LEAST + 7, LEAST + 8, -17, -16, -15, -9, -8, -7, -1, 0, 1, 7, 8, 9,
            15, 16, 17, MOST - 8, MOST - 7, MOST - 1, MOST}) {
            LaneDesk desk = done("a=n*n+1;XbaI[0];Ob;", value, 0);
            int source = (value % 8 + 8) % 8;
            for (int lane = 0; lane < 8; lane++) {
                dueOut("lane " + value + " modulo 8", desk, lane, 0, source * source + 1);
            }
        }
    }

    /** The same when each lane has another E, over both ends of int. */
    private static void laneModuloEightByLane() {
        for (int value : new int[] {LEAST, -4, 0, 4, MOST - 3, MOST}) {
            LaneDesk desk = done("a=n*n+1;Xban+I[0];Ob;", value, 0);
            for (int lane = 0; lane < 8; lane++) {
                int source = Math.floorMod(lane + value, 8);
                dueOut("lane n + " + value + " modulo 8", desk, lane, 0, source * source + 1);
            }
        }
    }

    private static void anyNumberIsPutOut() {
        for (int value : EDGES) {
            LaneDesk desk = done("OI[0];L[7]=I[0];h=I[0];", value, 0);
            dueOut("O " + value, desk, 0, 0, value);
            for (boolean alone : new boolean[] {false, true}) {
                CHECK.due("cell of " + value, desk.cell(alone, 0, 7), value);
                CHECK.due("variable of " + value, desk.cell(alone, 0, 15), value);
            }
        }
    }

    /** "at most 20 are kept, the others are only counted": 19, 20 and 21. */
    private static void atMostTwentyAreKept() {
        for (int count : new int[] {0, 1, 19, 20, 21, 40}) {
            LaneDesk desk = done("*a<I[0]{a=a+1;O(a+100);}", count, 0);
            for (boolean alone : new boolean[] {false, true}) {
                for (int lane : new int[] {0, 7}) {
                    CHECK.due("numbers of " + count, desk.lane(alone, lane, 0), count);
                    for (int k = 0; k < 42; k++) {
                        int which = k;
                        if (k < count && k < 20) {
                            CHECK.due("number " + k + " of " + count, desk.out(alone, lane, k), k + 101);
                        } else {
                            CHECK.dueIndex("number " + k + " of " + count, () -> desk.out(alone, lane, which));
                        }
                    }
                }
            }
        }
    }

    /** Also when there are many more, call by call, and without any harm to the other lanes' numbers. */
    private static void theOthersAreCounted() {
        LaneDesk desk = Check.started("*1{?n=3{On;}{?n<3{R;}}}");
        desk.run(5);
        int before = desk.lane(false, 3, 0);
        for (int k = 0; k < 20; k++) {
            desk.run(500);
        }
        int issued = desk.spent(0);
        CHECK.due("lanes 3 to 7 go on", desk.mask() != 0, true);
        CHECK.due("numbers before", before, 1);
        // Five are issued in the first round (*, ?, O, ?, R), and four in each one behind it.
        CHECK.due("numbers of 3", desk.lane(false, 3, 0), 1 + (issued - 5 + 1) / 4);
        CHECK.due("the last one that is kept", desk.out(false, 3, 19), 3);
        CHECK.dueIndex("the first one that is not", () -> desk.out(false, 3, 20));
        CHECK.due("numbers of 2", desk.lane(false, 2, 0), 0);
        CHECK.due("numbers of 4", desk.lane(false, 4, 0), 0);
        CHECK.dueIndex("no number of 4", () -> desk.out(false, 4, 0));
    }
}
