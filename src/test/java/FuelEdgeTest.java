/** Fuel, and what is spent when it runs out just there (Terms; promises 10, 12 and 13). */
public final class FuelEdgeTest {
    private static final Check CHECK = new Check();

    public static void main(String[] args) {
        runsOutAnywhere();
        inPieces();
        nothingMoreIsToBeIssued();
        aStatementIsToBeIssued();
        justFiveHundred();
        overBefore();
        startedAnewAnywhere();
        aloneRunsOutAnywhere();
        aloneForEachNumberOfLanes();
        justFourThousand();
        exchangeCosts();
        neverEnds();
        runsDoNotShareFuel();
        longestRunOfADesk();
        CHECK.end();
    }

    private static int busy(int[] masks, int issued) {
        int busy = 0;
        for (int k = 0; k < issued; k++) {
            busy += Integer.bitCount(masks[k]);
        }
        return busy;
    }

    private static void dueSpent(String of, LaneDesk desk, int[] masks, int issued) {
        CHECK.due("issued of " + of, desk.spent(0), issued);
        CHECK.due("busy of " + of, desk.spent(1), busy(masks, issued));
        CHECK.due("mask of " + of, desk.mask(), issued < masks.length ? masks[issued] : 0);
    }

    /** "1 it is over .., 0 the fuel is spent and a statement is to be issued", for each fuel up to more than it takes. */
    private static void dueFuel(String text, int... masks) {
        for (int fuel = 1; fuel <= masks.length + 2; fuel++) {
            LaneDesk desk = Check.started(text);
            String of = "run(" + fuel + ") of " + text;
            CHECK.due(of, desk.run(fuel), fuel >= masks.length ? 1 : 0);
            dueSpent(of, desk, masks, Math.min(fuel, masks.length));
        }
        int cost = busy(masks, masks.length);
        LaneDesk desk = Check.compiled(text);
        for (int fuel = 1; fuel <= cost + 1; fuel++) {
            CHECK.due("alone(" + fuel + ") of " + text, desk.alone(fuel), fuel >= cost ? 1 : 0);
        }
    }

    private static void runsOutAnywhere() {
        dueFuel("a=1;", 255);
        dueFuel("R;", 255);
        dueFuel("?n{a=1;b=1;}{c=1;}d=1;", 255, 254, 254, 1, 255);
        dueFuel("*a<2{a=a+1;}b=1;", 255, 255, 255, 255, 255, 255);
        dueFuel("*a<n{a=a+3;?a<n{b=1;}}b=2;", 255, 254, 254, 240, 254, 240, 240, 128, 240, 128, 128, 128, 255);
        dueFuel("?n<4{?n<2{?n{R;}{a=1;}}{b=1;}}{c=1;}d=1;", 255, 15, 3, 2, 1, 12, 240, 253);
        dueFuel("Xabn;?n=3{OI[16];}Xban;", 255, 255, 8, 247);
        dueFuel("*1{?n<(a+1){R;}a=a+4;}", 255, 255, 1, 254, 254, 254, 30, 224, 224, 224, 224);
    }

    /** "Goes on with it": the same run in pieces of any size. */
    private static void inPieces() {
        int[] masks = {255, 254, 254, 240, 254, 240, 240, 128, 240, 128, 128, 128, 255};
        for (int first = 1; first <= 12; first++) {
            for (int then = 1; then <= 13; then++) {
                LaneDesk desk = Check.started("*a<n{a=a+3;?a<n{b=1;}}b=2;");
                String of = "run(" + first + "), run(" + then + ")";
                CHECK.due(of, desk.run(first), 0);
                CHECK.due(of, desk.run(then), first + then >= 13 ? 1 : 0);
                dueSpent(of, desk, masks, Math.min(13, first + then));
                CHECK.due("the rest behind " + of, desk.run(500), 1);
                dueSpent("all behind " + of, desk, masks, 13);
                CHECK.due("a of 7", desk.cell(false, 7, 8), 9);
                CHECK.due("b of 7", desk.cell(false, 7, 9), 2);
            }
        }
    }

    /** The fuel is spent, but what is left has no lanes: it is over. */
    private static void nothingMoreIsToBeIssued() {
        dueOverBehind("?1{a=1;}{b=1;}", 2);
        dueOverBehind("?1{a=1;}{?1{b=1;}{c=1;}}", 2);
        dueOverBehind("?0{a=1;*1{b=1;}}", 1);
        dueOverBehind("?1{}", 1);
        dueOverBehind("*0{a=1;}", 1);
        dueOverBehind("R;a=1;?1{b=1;}{c=1;}*1{d=1;}", 1);
        dueOverBehind("?n{R;}{R;}O1;Xab0;", 3);
        dueOverBehind("*1{R;a=1;}b=1;", 2);
        dueOverBehind("*1{*1{*1{*1{R;}}}}b=1;", 5);
        dueOverBehind("?1{?1{?1{?1{a=1;}{b=1;}}{b=1;}}{b=1;}}{b=1;}", 5);
        dueOverBehind("?0{b=1;}{?0{b=1;}{?0{b=1;}{?0{b=1;}{}}}}", 4);
        dueOverBehind("a=I[16];b=1;", 1);
        dueOverBehind("Xab0-I[16];b=1;", 1);
        dueOverBehind("?I[16]{b=1;}{c=1;}", 1);
        dueOverBehind("*I[16]{b=1;}c=1;", 1);
    }

    private static void dueOverBehind(String text, int issued) {
        LaneDesk desk = Check.started(text);
        if (issued > 1) {
            CHECK.due("one less of " + text, desk.run(issued - 1), 0);
            CHECK.due("mask of " + text, desk.mask() != 0, true);
        }
        CHECK.due("the last of " + text, desk.run(1), 1);
        CHECK.due("mask at the end of " + text, desk.mask(), 0);
        CHECK.due("issued of " + text, desk.spent(0), issued);
        desk.input(0, 1);
        desk.lanes(8);
    }

    /** The fuel is spent, and a * that will find no lanes is still to be issued. */
    private static void aStatementIsToBeIssued() {
        LaneDesk loop = Check.started("*a<1{a=1;}");
        CHECK.due("behind the block", loop.run(2), 0);
        CHECK.due("the * again", loop.mask(), 255);
        CHECK.dueState("it is not over", () -> loop.input(0, 1));
        CHECK.due("lane 0 is not at its end", loop.lane(false, 0, 2), 0);
        CHECK.due("the last *", loop.run(1), 1);
        CHECK.due("lane 0 is at its end", loop.lane(false, 0, 2), 1);
        LaneDesk second = Check.started("?n=7{a=1;}{b=1;}");
        CHECK.due("behind the first block", second.run(2), 0);
        CHECK.due("the second one", second.mask(), 127);
        LaneDesk last = Check.started("?n{R;}?1{}");
        CHECK.due("the last lane", last.run(2), 0);
        CHECK.due("mask", last.mask(), 1);
        CHECK.due("its last statement", last.run(1), 1);
    }

    /** The most fuel that a call can give: a run of just as many, and of one more. */
    private static void justFiveHundred() {
        LaneDesk just = Check.started("*a<249{a=a+1;}b=1;");
        CHECK.due("499 of 500", just.run(499), 0);
        just.start();
        CHECK.due("500 of 500", just.run(500), 1);
        CHECK.due("issued", just.spent(0), 500);
        CHECK.due("busy", just.spent(1), 4000);
        LaneDesk more = Check.started("*a<249{a=a+1;}b=1;c=1;");
        CHECK.due("500 of 501", more.run(500), 0);
        CHECK.due("issued", more.spent(0), 500);
        CHECK.due("mask", more.mask(), 255);
        CHECK.due("c is not given yet", more.cell(false, 0, 10), 0);
        CHECK.due("the last", more.run(500), 1);
        CHECK.due("issued", more.spent(0), 501);
        CHECK.due("c", more.cell(false, 0, 10), 1);
    }

    /** "1 it is over (also before)": nothing is issued and nothing changes. */
    private static void overBefore() {
        LaneDesk desk = Check.started("a=a+1;Oa;");
        CHECK.due("over", desk.run(500), 1);
        for (int fuel : new int[] {1, 2, 499, 500}) {
            CHECK.due("run(" + fuel + ") of what is over", desk.run(fuel), 1);
            CHECK.due("issued", desk.spent(0), 2);
            CHECK.due("busy", desk.spent(1), 16);
            CHECK.due("numbers", desk.lane(false, 0, 0), 1);
            CHECK.due("a", desk.cell(false, 0, 8), 1);
            CHECK.due("mask", desk.mask(), 0);
        }
    }

    /** "Starts the run in step (anew)", behind each number of statements. */
    private static void startedAnewAnywhere() {
        String text = "a=a+1;L[n]=a;Oa;?n<4{?n<2{R;}{b=L[9];}}{*a<3{a=a+1;}}c=1;";
        int[] masks = {255, 255, 255, 255, 15, 3, 12, 240, 240, 240, 240, 240, 240};
        for (int issued = 1; issued <= masks.length; issued++) {
            LaneDesk desk = Check.started(text);
            CHECK.due("run(" + issued + ")", desk.run(issued), issued == masks.length ? 1 : 0);
            desk.start();
            dueSpent("started anew behind " + issued, desk, masks, 0);
            for (int lane = 0; lane < 8; lane++) {
                CHECK.due("numbers anew", desk.lane(false, lane, 0), 0);
                CHECK.due("trap anew", desk.lane(false, lane, 1), 0);
                CHECK.due("stopped anew", desk.lane(false, lane, 2), 0);
                CHECK.due("cell anew", desk.cell(false, lane, lane), 0);
                CHECK.due("a anew", desk.cell(false, lane, 8), 0);
            }
            CHECK.due("all of it anew", desk.run(500), 1);
            dueSpent("all of it anew behind " + issued, desk, masks, masks.length);
            CHECK.due("a of 7", desk.cell(false, 7, 8), 3);
        }
    }

    /** "1 all lanes are stopped or at their end, 0 the fuel did not do": in both there is the whole or nothing. */
    private static void aloneRunsOutAnywhere() {
        String text = "a=n;*a{a=a-1;Oa;}";
        int cost = 8 + 8 + 3 * 28;
        LaneDesk desk = Check.compiled(text);
        for (int fuel = 1; fuel <= cost + 1; fuel++) {
            boolean does = fuel >= cost;
            CHECK.due("alone(" + fuel + ")", desk.alone(fuel), does ? 1 : 0);
            if (does) {
                CHECK.due("numbers", desk.lane(true, 7, 0), 7);
                CHECK.due("stopped", desk.lane(true, 7, 2), 1);
            } else {
                CHECK.dueState("no results", () -> desk.lane(true, 0, 0));
            }
        }
    }

    /** Only lanes that take part cost anything. */
    private static void aloneForEachNumberOfLanes() {
        LaneDesk desk = Check.compiled("a=n;*a{a=a-1;}Xabn;");
        for (int n = 1; n <= 8; n++) {
            desk.lanes(n);
            int cost = 3 * n + n * (n - 1);
            CHECK.due("one less for " + n, desk.alone(cost - 1), 0);
            CHECK.due("just enough for " + n, desk.alone(cost), 1);
        }
    }

    /** The most fuel that a call can give: a run alone of just as much, and of one more. */
    private static void justFourThousand() {
        LaneDesk just = Check.compiled("*a<249{a=a+1;}b=1;");
        CHECK.due("3999 of 4000", just.alone(3999), 0);
        CHECK.due("4000 of 4000", just.alone(4000), 1);
        CHECK.due("b of the last lane", just.cell(true, 7, 9), 1);
        LaneDesk more = Check.compiled("*a<249{a=a+1;}?n=7{b=1;}");
        CHECK.due("4000 of 4001", more.alone(4000), 0);
        CHECK.dueState("no results", () -> more.cell(true, 0, 9));
        LaneDesk exchange = Check.compiled("*a<249{a=a+1;}Xban;");
        CHECK.due("4000 with an X at the end", exchange.alone(4000), 1);
        CHECK.due("3999 with an X at the end", exchange.alone(3999), 0);
        LaneDesk one = Check.compiled("*a<(999+999){a=a+1;}b=1;c=1;d=1;");
        one.lanes(1);
        CHECK.due("4000 of one lane", one.alone(4000), 1);
        CHECK.due("d", one.cell(true, 0, 11), 1);
        CHECK.due("3999 of one lane", one.alone(3999), 0);
        LaneDesk meeting = Check.compiled("*a<(999+333){a=a+1;Xbcn;}");
        meeting.lanes(1);
        CHECK.due("1 + 3 * 1332 with as many X", meeting.alone(3997), 1);
        CHECK.due("one less", meeting.alone(3996), 0);
    }

    /** "Each statement of each lane costs 1 of the fuel (an X, too)", also that which stops its lane. */
    private static void exchangeCosts() {
        dueFuel("Xab0;", 255);
        dueFuel("Xab0;Xba0;", 255, 255);
        dueFuel("XabI[n+12];Xbcn;", 255, 15);
        dueFuel("?n{R;}Xab0;", 255, 254, 1);
        dueFuel("*a<2{Xbcn;a=a+1;}", 255, 255, 255, 255, 255, 255, 255);
    }

    private static void neverEnds() {
        for (String text : new String[] {"*1{}", "*1{a=a+1;}", "*1{Xab0;}", "*1{*1{}}", "?n=7{*1{}}", "*n{}", "*n=7{On;}"}) {
            LaneDesk desk = Check.started(text);
            CHECK.due("run of " + text, desk.run(500), 0);
            CHECK.due("issued of " + text, desk.spent(0), 500);
            CHECK.due("alone of " + text, desk.alone(4000), 0);
            CHECK.due("run on of " + text, desk.run(500), 0);
            CHECK.due("issued of " + text, desk.spent(0), 1000);
        }
    }

    /** What the one run spends is not missing in the other, nor are they seen in one another. */
    private static void runsDoNotShareFuel() {
        LaneDesk desk = Check.started("a=a+1;b=a;Ob;");
        desk.run(1);
        CHECK.due("alone in the midst", desk.alone(24), 1);
        CHECK.due("issued in step", desk.spent(0), 1);
        CHECK.due("busy in step", desk.spent(1), 8);
        CHECK.due("b in step", desk.cell(false, 0, 9), 0);
        CHECK.due("b alone", desk.cell(true, 0, 9), 1);
        CHECK.due("alone with too little", desk.alone(23), 0);
        CHECK.due("a in step", desk.cell(false, 0, 8), 1);
        CHECK.due("the rest in step", desk.run(2), 1);
        CHECK.due("out in step", desk.out(false, 7, 0), 1);
        CHECK.dueState("out alone", () -> desk.out(true, 7, 0));
    }

    /** "An object is used for at most 512 calls": no run can be longer than this, and all of it is counted. */
    private static void longestRunOfADesk() {
        LaneDesk desk = Check.started("*1{O1;}");
        for (int calls = 4; calls < 508; calls++) {
            if (desk.run(500) != 0) {
                CHECK.report("a run that never ends is over");
            }
        }
        CHECK.due("issued", desk.spent(0), 504 * 500);
        CHECK.due("busy", desk.spent(1), 504 * 500 * 8);
        CHECK.due("numbers", desk.lane(false, 7, 0), 504 * 250);
        CHECK.due("call 512", desk.mask(), 255);
    }
}
