/** Traps at the ends of what can be named, in each statement and in both runs. */
public final class TrapEdgeTest {
    private static final Check CHECK = new Check();
    /** The statements that name I[a], and the same with L[a]; b is 5 and cell 0 is 6 before. */
    private static final String[] NAMING = {
        "b=I[a];", "OI[a];", "L[I[a]*0]=9;", "L[0]=I[a];", "XbbI[a];", "?I[a]{O1;}{O2;}", "*I[a]{O1;R;}",
        "b=1+(2*I[a]);", "b=0*I[a];", "b=I[I[a]*0];", "b=L[I[a]*0];", "OI[a]=I[a];", "O0&(1<I[a]);"};

    public static void main(String[] args) {
        inputsThatThereAre();
        cellsThatThereAre();
        inputsThatThereAreNot();
        cellsThatThereAreNot();
        ownCellGiven();
        bothReckonedFirst();
        placeOfTheStatementPlusOne();
        neitherBlock();
        loopThatTrapsLater();
        exchangeThatTraps();
        someLanesOnly();
        allLanes();
        doneIsNoTrap();
        trapStaysTheFirst();
        onlyItsOwnExpressions();
        onlyItsOwnExpressionsOfALaterKernel();
        CHECK.end();
    }

    /** A kernel in which a is given by input 15. */
    private static LaneDesk done(String text, int a) {
        LaneDesk desk = Check.compiled(text);
        desk.input(15, a);
        desk.start();
        Check.finish(desk);
        return desk;
    }

    private static void dueNoTrap(String text, int a) {
        LaneDesk desk = done("a=I[15];b=5;L[0]=6;" + text + "c=1;", a);
        for (boolean alone : new boolean[] {false, true}) {
            CHECK.due("no trap of " + text + " for " + a, desk.lane(alone, 7, 1), 0);
        }
        CHECK.due("all are issued", desk.spent(1) % 8, 0);
    }

    /** "the statement does nothing for it then", nor does any behind it; it costs 1. */
    private static void dueTrap(String text, int a) {
        LaneDesk desk = done("a=I[15];b=5;L[0]=6;" + text + "c=1;Oc;", a);
        String of = " of " + text + " for " + a;
        CHECK.due("issued" + of, desk.spent(0), 4);
        CHECK.due("busy" + of, desk.spent(1), 32);
        for (boolean alone : new boolean[] {false, true}) {
            for (int lane : new int[] {0, 7}) {
                CHECK.due("trap" + of, desk.lane(alone, lane, 1), 20);
                CHECK.due("stopped" + of, desk.lane(alone, lane, 2), 1);
                CHECK.due("numbers" + of, desk.lane(alone, lane, 0), 0);
                CHECK.due("a" + of, desk.cell(alone, lane, 8), a);
                CHECK.due("b" + of, desk.cell(alone, lane, 9), 5);
                CHECK.due("c" + of, desk.cell(alone, lane, 10), 0);
                for (int k = 0; k < 8; k++) {
                    CHECK.due("cell " + k + of, desk.cell(alone, lane, k), k == 0 ? 6 : 0);
                }
            }
        }
        CHECK.due("cost" + of, desk.alone(32), 1);
        CHECK.due("cost is not less" + of, desk.alone(31), 0);
    }

    private static String ofCells(String text) {
        return text.replace("I[a]", "L[a]");
    }

    /** "an input that is not 0 .. 15": these are. */
    private static void inputsThatThereAre() {
        for (String text : NAMING) {
            for (int a = 0; a <= 15; a++) {
                dueNoTrap(text, a);
            }
        }
    }

    /** "an own cell that is not 0 .. 7": these are. */
    private static void cellsThatThereAre() {
        for (String text : NAMING) {
            for (int a = 0; a <= 7; a++) {
                dueNoTrap(ofCells(text), a);
            }
        }
    }

    private static void inputsThatThereAreNot() {
        for (String text : NAMING) {
            for (int a : Check.outside(0, 15)) {
                dueTrap(text, a);
            }
        }
    }

    private static void cellsThatThereAreNot() {
        for (String text : NAMING) {
            for (int a : Check.outside(0, 7)) {
                dueTrap(ofCells(text), a);
            }
            for (int a = 8; a <= 16; a++) {
                dueTrap(ofCells(text), a);
            }
        }
    }

    /** The own cell that a statement gives something to is named by it, too. */
    private static void ownCellGiven() {
        for (int a : Check.outside(0, 7)) {
            dueTrap("L[a]=9;", a);
            dueTrap("L[a]=I[15];", a);
            dueTrap("L[a]=L[a];", a);
            dueTrap("L[a]=I[99];", a);
        }
        for (int a = 0; a < 8; a++) {
            LaneDesk desk = done("L[I[15]]=n+9;", a);
            for (boolean alone : new boolean[] {false, true}) {
                for (int k = 0; k < 8; k++) {
                    CHECK.due("cell " + k + " when " + a + " is given", desk.cell(alone, 6, k), k == a ? 15 : 0);
                }
                CHECK.due("no trap", desk.lane(alone, 6, 1), 0);
            }
        }
    }

    /** "(In L [ E ] = F , E and F are reckoned first.)" */
    private static void bothReckonedFirst() {
        LaneDesk desk = done("L[1]=1;L[L[1]]=L[1]+3;L[L[1]]=L[1]+L[4];", 0);
        for (boolean alone : new boolean[] {false, true}) {
            CHECK.due("cell 1", desk.cell(alone, 0, 1), 4);
            CHECK.due("cell 4", desk.cell(alone, 0, 4), 4);
            CHECK.due("cell 7", desk.cell(alone, 0, 7), 0);
        }
        dueTrap("L[0]=L[8];", 0);
        dueTrap("L[0]=0*I[16];", 0);
        dueTrap("L[L[8]]=1;", 0);
        dueTrap("L[8]=I[16];", 0);
    }

    /** "told by the place of the statement (of ? and *, too) plus 1": of the inmost one, and at place 0, too. */
    private static void placeOfTheStatementPlusOne() {
        dueTrapAt("OI[16];", 1);
        dueTrapAt("a=L[8];", 1);
        dueTrapAt("L[8]=1;", 1);
        dueTrapAt("XabL[8];", 1);
        dueTrapAt("?L[8]{}", 1);
        dueTrapAt("*L[8]{}", 1);
        dueTrapAt("?1{OL[8];}", 4);
        dueTrapAt("?0{}{OL[8];}", 6);
        dueTrapAt("*1{OL[8];}", 4);
        dueTrapAt("?1{?1{?1{?1{a=L[8];}}}}", 13);
        dueTrapAt("?1{?1{?1{?L[8]{a=1;}}}}", 10);
        dueTrapAt("?1{*1{?1{*L[8]{a=1;}}}}", 10);
        dueTrapAt("?0{}{?0{}{XabL[8];}}", 11);
        dueTrapAt("a=1;b=2;?a{c=(I[(16)]);}", 12);
        dueTrapAt("?1{}?1{}{}*0{}L[8]=1;", 15);
    }

    private static void dueTrapAt(String text, int trap) {
        LaneDesk desk = done(text, 0);
        for (int lane = 0; lane < 8; lane++) {
            CHECK.due("trap of " + text, desk.lane(false, lane, 1), trap);
            CHECK.due("trap alone of " + text, desk.lane(true, lane, 1), trap);
        }
    }

    /** A ? or * that traps has neither block, and what is behind it is for the others. */
    private static void neitherBlock() {
        LaneDesk desk = done("?I[n+13]=0{O1;}{O2;}O3;", 0);
        for (boolean alone : new boolean[] {false, true}) {
            for (int lane = 0; lane < 8; lane++) {
                CHECK.due("trap of " + lane, desk.lane(alone, lane, 1), lane < 3 ? 0 : 1);
                CHECK.due("numbers of " + lane, desk.lane(alone, lane, 0), lane < 3 ? 2 : 0);
            }
            CHECK.due("the first block", desk.out(alone, 2, 0), 1);
            CHECK.due("what is behind", desk.out(alone, 2, 1), 3);
        }
        CHECK.due("issued", desk.spent(0), 3);
        CHECK.due("busy", desk.spent(1), 8 + 3 + 3);
        LaneDesk second = done("?I[n+13]{O1;}{O2;}O3;", 0);
        CHECK.due("the second block", second.out(false, 1, 0), 2);
        CHECK.due("input 15 is 0 for lane 2, too", second.out(true, 2, 0), 2);
        CHECK.due("issued", second.spent(0), 3);
        CHECK.due("busy", second.spent(1), 8 + 3 + 3);
    }

    /** A * is reckoned anew each time, and may trap the second or third time. */
    private static void loopThatTrapsLater() {
        LaneDesk desk = done("*L[a]=0{a=a+3;Oa;}", 0);
        for (boolean alone : new boolean[] {false, true}) {
            CHECK.due("trap", desk.lane(alone, 5, 1), 1);
            CHECK.due("a", desk.cell(alone, 5, 8), 9);
            CHECK.due("numbers", desk.lane(alone, 5, 0), 3);
        }
        CHECK.due("issued", desk.spent(0), 1 + 3 * 3);
        LaneDesk parted = done("*I[a]=0{a=a+n+1;}Oa;", 0);
        CHECK.due("trap of lane 0", parted.lane(false, 0, 1), 1);
        CHECK.due("a of lane 0", parted.cell(false, 0, 8), 16);
        CHECK.due("a of lane 7", parted.cell(false, 7, 8), 16);
        CHECK.due("a of lane 6", parted.cell(false, 6, 8), 21);
        CHECK.due("nothing behind it", parted.lane(false, 6, 0), 0);
        // Lane n goes round ceil(16 / (n + 1)) times: a * and an a= each time, and the * that traps.
        int busy = 0;
        for (int lane = 0; lane < 8; lane++) {
            busy += 2 * ((16 + lane) / (lane + 1)) + 1;
        }
        CHECK.due("masks shrink", parted.spent(1), busy);
        CHECK.due("issued as long as lane 0 goes round", parted.spent(0), 33);
        CHECK.due("alone costs as much", parted.alone(busy), 1);
        CHECK.due("and not less", parted.alone(busy - 1), 0);
    }

    /** "lane E's w, if that lane is in the mask and not stopped by its E, otherwise 0"; v stays for the stopped one. */
    private static void exchangeThatTraps() {
        LaneDesk desk = done("a=n+1;b=50;XbaI[n*3]+n+1;Ob;", 0);
        for (boolean alone : new boolean[] {false, true}) {
            for (int lane = 0; lane < 8; lane++) {
                int b = lane > 5 ? 50 : lane == 5 ? 0 : lane + 2;
                CHECK.due("b of " + lane, desk.cell(alone, lane, 9), b);
                CHECK.due("trap of " + lane, desk.lane(alone, lane, 1), lane > 5 ? 12 : 0);
                CHECK.due("numbers of " + lane, desk.lane(alone, lane, 0), lane > 5 ? 0 : 1);
            }
        }
        LaneDesk low = done("a=n+1;b=50;XbaI[18-n-n]+n-1;Ob;", 0);
        for (boolean alone : new boolean[] {false, true}) {
            CHECK.due("lane 1 is stopped, and b stays", low.cell(alone, 1, 9), 50);
            CHECK.due("lane 2 has 0 of it", low.cell(alone, 2, 9), 0);
            CHECK.due("lane 3 has that of lane 2", low.cell(alone, 3, 9), 3);
        }
        LaneDesk none = done("b=50;Xbb16+I[16];Ob;", 0);
        CHECK.due("all are stopped", none.spent(0), 2);
        CHECK.due("b stays", none.cell(true, 0, 9), 50);
    }

    /** A lane that traps is in no mask any more, the others go on. */
    private static void someLanesOnly() {
        LaneDesk desk = done("a=I[n*3];?n<7{b=L[n+3];c=1;}d=1;", 0);
        for (boolean alone : new boolean[] {false, true}) {
            for (int lane = 0; lane < 8; lane++) {
                CHECK.due("trap of " + lane, desk.lane(alone, lane, 1), lane > 5 ? 1 : lane == 5 ? 15 : 0);
                CHECK.due("c of " + lane, desk.cell(alone, lane, 10), lane > 4 ? 0 : 1);
                CHECK.due("d of " + lane, desk.cell(alone, lane, 11), lane > 4 ? 0 : 1);
            }
        }
        CHECK.due("busy", desk.spent(1), 8 + 6 + 6 + 5 + 5);
    }

    /** When all lanes have trapped, all that is left is passed over. */
    private static void allLanes() {
        LaneDesk desk = Check.started("*1{?1{a=I[16];b=1;}{c=1;}d=1;}O1;");
        CHECK.due("before the trap", desk.run(2), 0);
        CHECK.due("the trap", desk.run(1), 1);
        CHECK.due("mask", desk.mask(), 0);
        CHECK.due("issued", desk.spent(0), 3);
        CHECK.due("alone", desk.alone(24), 1);
        CHECK.due("alone with one less", desk.alone(23), 0);
    }

    /** R is no trap. */
    private static void doneIsNoTrap() {
        LaneDesk desk = done("R;OI[16];", 0);
        for (boolean alone : new boolean[] {false, true}) {
            CHECK.due("trap", desk.lane(alone, 0, 1), 0);
            CHECK.due("stopped", desk.lane(alone, 0, 2), 1);
        }
    }

    /** A lane that is stopped has no other trap behind the first one. */
    private static void trapStaysTheFirst() {
        LaneDesk desk = done("?n<4{a=L[8];}b=L[8];c=L[9];", 0);
        for (boolean alone : new boolean[] {false, true}) {
            CHECK.due("trap of 3", desk.lane(alone, 3, 1), 6);
            CHECK.due("trap of 4", desk.lane(alone, 4, 1), 14);
        }
    }

    /** What a statement before or behind it names, and what would be a trap by now, is nothing to a statement. */
    private static void onlyItsOwnExpressions() {
        for (String text : new String[] {"c=1;", "O1;", "L[0]=1;", "Xcc0;", "?1{}", "*0{}", "R;"}) {
            LaneDesk desk = done("a=I[b];L[b]=L[b];OI[b];?I[b]{}b=16;" + text + "?0{OI[b];L[b]=I[b];}", 0);
            for (boolean alone : new boolean[] {false, true}) {
                CHECK.due("trap of " + text, desk.lane(alone, 0, 1), 0);
            }
        }
    }

    /** The same for expressions of kernels before, whether they were right or wrong. */
    private static void onlyItsOwnExpressionsOfALaterKernel() {
        String longOnes = "L[(1+1+1+1+1+1)]=1+1+1+1+1+1+1+1+1+1+1+1;".repeat(3);
        String shortOnes = "c=1;O1;d=2;?0{OI[16];L[16]=I[16];OI[16]+I[16]+I[16]+I[16];}";
        LaneDesk desk = new LaneDesk();
        for (String text : new String[] {longOnes, longOnes, shortOnes, longOnes + "!", shortOnes, longOnes, shortOnes}) {
            desk.clear();
            Check.type(desk, text);
            CHECK.due("compile of " + text, desk.compile(), text.endsWith("!") ? 1 : 0);
            desk.start();
            Check.finish(desk);
            for (boolean alone : new boolean[] {false, true}) {
                CHECK.due("trap of " + text, desk.lane(alone, 0, 1), 0);
            }
        }
    }
}
