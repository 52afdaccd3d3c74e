/** Promises 9 to 12. */
public final class StepTest {
    private static final Check CHECK = new Check();

    public static void main(String[] args) {
        starting();
        fuel();
        choice();
        emptyBlocks();
        loops();
        stopping();
        nesting();
        exchange();
        exchangeStops();
        traps();
        reckoning();
        longest();
        afterAnother();
        CHECK.end();
    }

    /** The masks of all statements that are issued, one run(1) for each, and what was spent. */
    private static LaneDesk dueMasks(String text, int... masks) {
        LaneDesk desk = Check.started(text);
        int busy = 0;
        for (int k = 0; k < masks.length; k++) {
            CHECK.due("mask " + k + " of " + text, desk.mask(), masks[k]);
            CHECK.due("run " + k + " of " + text, desk.run(1), k == masks.length - 1 ? 1 : 0);
            busy += Integer.bitCount(masks[k]);
            CHECK.due("issued " + k + " of " + text, desk.spent(0), k + 1);
            CHECK.due("busy " + k + " of " + text, desk.spent(1), busy);
        }
        CHECK.due("mask at the end of " + text, desk.mask(), 0);
        CHECK.due("run of what is over: " + text, desk.run(500), 1);
        CHECK.due("it costs nothing: " + text, desk.spent(0), masks.length);
        return desk;
    }

    private static void starting() {
        LaneDesk desk = Check.compiled("a=a+1;L[0]=a;Oa;?n{R;}On+I[20-n];");
        CHECK.due("mask before start", desk.mask(), 0);
        CHECK.dueState("run before start", () -> desk.run(1));
        CHECK.dueState("run before start goes before wrong fuel", () -> desk.run(0));
        CHECK.dueState("spent before start", () -> desk.spent(0));
        CHECK.dueArgument("a wrong what goes before that", () -> desk.spent(2));
        desk.start();
        CHECK.due("run", desk.run(500), 1);
        CHECK.due("lane 1 is done", desk.lane(false, 1, 1), 0);
        CHECK.due("lane 0 has a trap", desk.lane(false, 0, 1), 23);
        desk.alone(4000);
        desk.start();
        CHECK.due("mask anew", desk.mask(), 255);
        CHECK.due("issued anew", desk.spent(0), 0);
        CHECK.due("busy anew", desk.spent(1), 0);
        CHECK.due("a anew", desk.cell(false, 1, 8), 0);
        CHECK.due("cell anew", desk.cell(false, 1, 0), 0);
        CHECK.due("numbers anew", desk.lane(false, 1, 0), 0);
        CHECK.due("trap anew", desk.lane(false, 0, 1), 0);
        CHECK.due("stopped anew", desk.lane(false, 1, 2), 0);
        CHECK.due("the results alone stay", desk.cell(true, 1, 8), 1);
        desk.run(3);
        CHECK.due("a is 1 again", desk.out(false, 1, 0), 1);
        LaneDesk within = Check.started("*a<2{?n<4{a=a+1;}{a=a+2;}}");
        within.run(2);
        within.start();
        CHECK.due("started anew within blocks", within.run(500), 1);
        CHECK.due("all statements", within.spent(0), 8);
    }

    private static void fuel() {
        LaneDesk desk = Check.started("*1{a=a+1;}");
        CHECK.dueArgument("fuel 0", () -> desk.run(0));
        CHECK.dueArgument("fuel -1", () -> desk.run(-1));
        CHECK.dueArgument("fuel 501", () -> desk.run(501));
        CHECK.due("nothing is issued", desk.spent(0), 0);
        CHECK.due("fuel 500", desk.run(500), 0);
        CHECK.due("all is spent", desk.spent(0), 500);
        CHECK.due("a", desk.cell(false, 0, 8), 250);
        CHECK.due("fuel 1", desk.run(1), 0);
        CHECK.due("all is spent", desk.spent(0), 501);
        CHECK.due("busy", desk.spent(1), 501 * 8);
        CHECK.dueArgument("what -1", () -> desk.spent(-1));
        CHECK.dueArgument("what 2", () -> desk.spent(2));
        LaneDesk exact = Check.started("a=1;b=2;");
        CHECK.due("just as much fuel as it takes", exact.run(2), 1);
        CHECK.dueArgument("fuel 501 when it is over", () -> exact.run(501));
        LaneDesk none = Check.started("*1{}");
        CHECK.due("a loop without statements", none.run(500), 0);
        CHECK.due("it is issued again and again", none.spent(0), 500);
        LaneDesk empty = Check.started("");
        CHECK.due("mask of no statements", empty.mask(), 0);
        CHECK.due("run of no statements", empty.run(1), 1);
        CHECK.due("nothing is issued", empty.spent(0), 0);
        LaneDesk off = Check.started("?0{a=1;}");
        CHECK.due("what is passed over costs nothing", off.run(1), 1);
        CHECK.due("only the ? is issued", off.spent(0), 1);
    }

    private static void choice() {
        dueMasks("?n<3{a=1;b=1;}{a=2;}c=1;", 255, 7, 7, 248, 255);
        dueMasks("?n<3{a=1;}c=1;", 255, 7, 255);
        dueMasks("?n<3{}{a=1;}c=1;", 255, 248, 255);
        dueMasks("?1{a=1;}{a=2;}", 255, 255);
        dueMasks("?0{a=1;}{a=2;}", 255, 255);
        dueMasks("?0{a=1;}a=2;", 255, 255);
        LaneDesk desk = dueMasks("?n-3{a=1;}{a=2;}", 255, 247, 8);
        CHECK.due("what is below 0 is not 0", desk.cell(false, 2, 8), 1);
        CHECK.due("what is 0 has the second block", desk.cell(false, 3, 8), 2);
    }

    private static void emptyBlocks() {
        dueMasks("?n{}", 255);
        dueMasks("?n{}{}", 255);
        dueMasks("*n-n{}", 255);
        dueMasks("?0{?1{a=1;}{a=2;}*1{a=1;}R;Xab0;Oa;L[0]=1;}{}b=1;", 255, 255);
        dueMasks("?0{*1{?1{a=1;}}}{?n{?0{R;}{b=1;}}}", 255, 255, 254, 254);
    }

    private static void loops() {
        dueMasks("a=n-5;*0<a{a=a-1;}b=1;", 255, 255, 192, 192, 128, 128, 255);
        dueMasks("*a<n{a=a+4;}Oa;", 255, 254, 254, 224, 224, 255);
        LaneDesk desk = dueMasks("a=2;*a{b=n&1;*b{b=b-1;}a=a-1;}Oa;",
                255, 255, 255, 255, 170, 170, 255, 255, 255, 255, 170, 170, 255, 255, 255);
        CHECK.due("a at the end", desk.out(false, 6, 0), 0);
        dueMasks("*a<2{a=a+1;}*b<2{b=b+2;}", 255, 255, 255, 255, 255, 255, 255, 255);
    }

    private static void stopping() {
        dueMasks("?n<4{R;}a=1;", 255, 15, 240);
        dueMasks("R;a=1;*1{}", 255);
        dueMasks("?n{R;}{R;}a=1;", 255, 254, 1);
        dueMasks("*1{?n<(a+4){R;}a=a+4;}b=1;", 255, 255, 15, 240, 240, 240, 240);
        dueMasks("?n<4{?n<2{R;}{a=1;}b=1;}{c=1;}d=1;", 255, 15, 3, 12, 12, 240, 252);
        LaneDesk desk = dueMasks("?n=7{R;}*a<3{a=a+3;}Xban+1;", 255, 128, 127, 127, 127, 127);
        CHECK.due("a lane that is done gives 0", desk.cell(false, 6, 9), 0);
        CHECK.due("a lane that is not gives its own", desk.cell(false, 5, 9), 3);
        CHECK.due("a lane that is done has what it had", desk.cell(false, 7, 8), 0);
    }

    private static void nesting() {
        dueMasks("?n<6{?n<4{?n<2{?n<1{a=1;}{b=1;}c=1;}{d=1;}e=1;}{f=1;}g=1;}{h=1;}a=2;",
                255, 63, 15, 3, 1, 2, 3, 12, 15, 48, 63, 192, 255);
        dueMasks("?n{?1{}?1{}a=1;}", 255, 254, 254, 254);
        dueMasks("?n{*0{}*0{}a=1;}", 255, 254, 254, 254);
        dueMasks("*a<n{?n&1{a=a+n;}{*b<n{b=b+4;}a=n;}}",
                255, 254, 170, 84, 84, 84, 64, 64, 84, 254);
    }

    private static void exchange() {
        LaneDesk turn = dueMasks("a=n*10;Xaan+1;", 255, 255);
        for (int lane = 0; lane < 8; lane++) {
            CHECK.due("all are read first: " + lane, turn.cell(false, lane, 8), (lane + 1) % 8 * 10);
        }
        LaneDesk back = dueMasks("a=n*10;Xban-9;Xca0-8;Xda999;", 255, 255, 255, 255);
        CHECK.due("below 0 is rounded down", back.cell(false, 0, 9), 70);
        CHECK.due("below 0 is rounded down", back.cell(false, 1, 9), 0);
        CHECK.due("-8 is lane 0", back.cell(false, 5, 10), 0);
        CHECK.due("999 is lane 7", back.cell(false, 5, 11), 70);
        CHECK.due("w stays", back.cell(false, 5, 8), 50);
        LaneDesk looped = dueMasks("a=n;*b<2{Xaan+1;b=b+1;}", 255, 255, 255, 255, 255, 255, 255, 255);
        CHECK.due("twice round", looped.cell(false, 7, 8), 1);
    }

    private static void exchangeStops() {
        LaneDesk desk = dueMasks("a=n+1;XbaI[n*5]+n+1;Ob;", 255, 255, 15);
        CHECK.due("lane 4 is stopped by its E", desk.lane(false, 4, 1), 7);
        CHECK.due("and has no b", desk.cell(false, 4, 9), 0);
        CHECK.due("and gives 0", desk.out(false, 3, 0), 0);
        CHECK.due("lane 3 gives its own", desk.out(false, 2, 0), 4);
        LaneDesk first = dueMasks("a=n+1;XbaI[16-n]+n+7;Ob;", 255, 255, 254);
        CHECK.due("lane 0 is stopped by its E", first.lane(false, 0, 1), 7);
        CHECK.due("and gives 0", first.out(false, 1, 0), 0);
        CHECK.due("lane 1 gives its own", first.out(false, 2, 0), 2);
    }

    private static void traps() {
        LaneDesk desk = dueMasks("a=9;a=L[n+4];?I[n+13]{a=2;}{*L[n+6]{}b=3;}", 255, 255, 15, 7, 3);
        CHECK.due("a stays", desk.cell(false, 4, 8), 9);
        CHECK.due("trap of a=", desk.lane(false, 4, 1), 5);
        CHECK.due("trap of ?", desk.lane(false, 3, 1), 14);
        CHECK.due("no block of ? for it", desk.cell(false, 3, 9), 0);
        CHECK.due("trap of *", desk.lane(false, 2, 1), 29);
        CHECK.due("nothing behind * for it", desk.cell(false, 2, 9), 0);
        CHECK.due("no trap", desk.lane(false, 1, 1), 0);
        LaneDesk store = dueMasks("L[n-1]=5;L[1]=I[n+12];L[1]=L[n*2];", 255, 254, 14);
        CHECK.due("cell -1", store.lane(false, 0, 1), 1);
        CHECK.due("input 16", store.lane(false, 4, 1), 10);
        CHECK.due("no cell is changed", store.cell(false, 4, 1), 0);
        CHECK.due("cell 6", store.lane(false, 3, 1), 0);
        CHECK.due("cell 3", store.cell(false, 4, 3), 5);
        LaneDesk edges = dueMasks("a=I[0];a=I[15];a=L[7];L[7]=3;L[8]=4;b=1;", 255, 255, 255, 255, 255);
        CHECK.due("cell 8", edges.lane(false, 6, 1), 30);
        LaneDesk put = dueMasks("OI[16];O1;", 255);
        CHECK.due("nothing is put out", put.lane(false, 0, 0), 0);
        CHECK.due("a trap at place 0", put.lane(false, 0, 1), 1);
    }

    private static void reckoning() {
        dueOut("1+2*3", 9);
        dueOut("1+(2*3)", 7);
        dueOut("2-3-4", -5);
        dueOut("2-(3-4)", 3);
        dueOut("1<2", 1);
        dueOut("2<2", 0);
        dueOut("3<2", 0);
        dueOut("(0-1)<0", 1);
        dueOut("2=2", 1);
        dueOut("2=3", 0);
        dueOut("5=5=1", 1);
        dueOut("12&10", 8);
        dueOut("(0-1)&255", 255);
        dueOut("1+1&3", 2);
        dueOut("007+010", 17);
        dueOut("999", 999);
        dueOut("999*999*999*999", (int) (999L * 999 * 999 * 999));
        dueOut("999*999*999-(999*999*0)+999*5", (999 * 999 * 999 + 999) * 5);
        dueOut("((((1+2)+3)+4)+5)", 15);
        dueOut("(1+(2+(3+(4+5))))", 15);
        dueOut("n", 3);
        dueOut("I[1+1]", 77);
        dueOut("I[I[3]]*2", 154);
        dueOut("L[0]-1", -1);
    }

    private static void longest() {
        LaneDesk choices = Check.started("?n{}".repeat(40));
        CHECK.due("all of 40 ? but one", choices.run(39), 0);
        CHECK.due("the last one", choices.run(1), 1);
        LaneDesk loops = Check.started("?0{}{}".repeat(26) + "*0{}");
        CHECK.due("26 ? with two blocks and a *", loops.run(27), 1);
        CHECK.due("all are issued", loops.spent(1), 27 * 8);
        LaneDesk marks = Check.started("R;".repeat(80));
        CHECK.due("the first of 80", marks.run(1), 1);
        dueOut("1" + "+1".repeat(78), 79);
        dueOut("n" + "+n".repeat(78), 237);
    }

    /** Nothing of a run that was left within its blocks is there in the next kernel's. */
    private static void afterAnother() {
        LaneDesk desk = Check.started("?1{?1{*1{?1{a=1;}}}}");
        desk.run(4);
        dueNext(desk, "a=(", 1);
        dueNext(desk, "?1{*1{", 1);
        dueNext(desk, "?n<4{?1{a=1;}b=1;}", 0);
        desk.start();
        CHECK.due("run", desk.run(4), 1);
        CHECK.due("busy", desk.spent(1), 8 + 4 + 4 + 4);
        CHECK.due("b of the lanes in the block", desk.cell(false, 3, 9), 1);
        CHECK.due("b of the others", desk.cell(false, 4, 9), 0);
        dueNext(desk, "c=n;?n{Xab0;}", 2);
        dueNext(desk, "?n<2{?1{c=1;}d=1;}e=1;", 0);
        desk.start();
        CHECK.due("run", desk.run(5), 1);
        CHECK.due("busy", desk.spent(1), 8 + 2 + 2 + 2 + 8);
        for (int k = 0; k < 4; k++) {
            dueNext(desk, "Oc+(" + "1+".repeat(60) + "n);", 0);
        }
        desk.start();
        CHECK.due("run of a text compiled four times", desk.run(1), 1);
        CHECK.due("its number", desk.out(false, 7, 0), 67);
        dueNext(desk, "?n<2{?1{c=1;}d=1;}e=1;", 0);
        CHECK.due("a does not vary in the last one", desk.varies(0), false);
        CHECK.due("c does", desk.varies(2), true);
    }

    private static void dueNext(LaneDesk desk, String text, int answer) {
        desk.clear();
        Check.type(desk, text);
        CHECK.due("compile of " + text, desk.compile(), answer);
    }

    private static void dueOut(String expression, int want) {
        LaneDesk desk = Check.typed("O" + expression + ";");
        desk.input(2, 77);
        desk.input(3, 2);
        CHECK.due("compile of " + expression, desk.compile(), 0);
        desk.start();
        CHECK.due("run of " + expression, desk.run(1), 1);
        CHECK.due(expression, desk.out(false, 3, 0), want);
    }
}
