/** Promise 13. */
public final class AloneTest {
    private static final Check CHECK = new Check();

    public static void main(String[] args) {
        dueCost("", 0);
        dueCost("a=1;", 8);
        dueCost("?n<3{a=1;b=1;}{a=2;}c=1;", 8 + 6 + 5 + 8);
        dueCost("?n<3{a=1;}", 8 + 3);
        dueCost("?n<3{}{a=1;}", 8 + 5);
        dueCost("a=n;*a{a=a-1;}", 8 + 8 + 28 + 28);
        dueCost("R;a=1;", 8);
        dueCost("?n{R;}a=1;", 8 + 7 + 1);
        dueCost("XabI[n+9];a=1;", 8 + 7);
        dueCost("Xab0;Xab0;", 16);
        dueCost("?n{R;}Xab0;", 8 + 7 + 1);
        dueCost("*a<2{a=a+1;?n{?1{}{R;}}{}}", 8 + 2 * (8 + 8 + 8 + 7));
        dueCost("*a<2{a=a+1;?n{b=1;}{?1{c=1;}}}d=1;", 8 + 2 * (8 + 8 + 8 + 9) + 8);
        exchange();
        stops();
        fuel();
        results();
        CHECK.end();
    }

    /** Just so much fuel does, and one less does not. */
    private static void dueCost(String text, int cost) {
        LaneDesk desk = Check.compiled(text);
        if (cost > 1) {
            CHECK.due("alone(" + (cost - 1) + ") of " + text, desk.alone(cost - 1), 0);
            CHECK.dueState("no results of " + text, () -> desk.lane(true, 0, 0));
        }
        CHECK.due("alone(" + Math.max(1, cost) + ") of " + text, desk.alone(Math.max(1, cost)), 1);
        CHECK.due("results of " + text, desk.lane(true, 0, 2), 1);
    }

    private static void exchange() {
        LaneDesk desk = Check.compiled("a=n*10;Xaan+1;?n=7{R;}Xban+1;Xcbn-9;");
        CHECK.due("alone", desk.alone(4000), 1);
        for (int lane = 0; lane < 7; lane++) {
            CHECK.due("a of " + lane, desk.cell(true, lane, 8), (lane + 1) * 10);
            CHECK.due("b of " + lane, desk.cell(true, lane, 9), lane < 6 ? (lane + 2) * 10 : 0);
        }
        CHECK.due("a of the last", desk.cell(true, 7, 8), 0);
        CHECK.due("what is done has no b", desk.cell(true, 7, 9), 0);
        CHECK.due("c of 1 is b of 0", desk.cell(true, 1, 10), 20);
        CHECK.due("c of 0 is that of a lane that is done", desk.cell(true, 0, 10), 0);
        LaneDesk looped = Check.compiled("a=n;*b<3{Xaan+1;b=b+1;Oa;}");
        CHECK.due("alone with an X in a loop", looped.alone(4000), 1);
        CHECK.due("first", looped.out(true, 6, 0), 7);
        CHECK.due("second", looped.out(true, 6, 1), 0);
        CHECK.due("third", looped.out(true, 6, 2), 1);
    }

    private static void stops() {
        LaneDesk desk = Check.compiled("a=n+1;XbaI[n*5]+n+1;Ob;OL[n+6];On;");
        CHECK.due("alone", desk.alone(4000), 1);
        CHECK.due("stopped by its X", desk.lane(true, 4, 1), 7);
        CHECK.due("it gives 0", desk.out(true, 3, 0), 0);
        CHECK.due("others give their own", desk.out(true, 2, 0), 4);
        CHECK.due("a trap behind it", desk.lane(true, 2, 1), 24);
        CHECK.due("no trap", desk.lane(true, 1, 1), 0);
        CHECK.due("all numbers", desk.lane(true, 1, 0), 3);
        LaneDesk branch = Check.compiled("?I[n+13]{a=1;}{*L[n+6]{}a=2;}");
        CHECK.due("alone", branch.alone(4000), 1);
        CHECK.due("trap of ?", branch.lane(true, 3, 1), 1);
        CHECK.due("trap of *", branch.lane(true, 2, 1), 16);
        CHECK.due("a of a lane that goes on", branch.cell(true, 1, 8), 2);
        CHECK.due("a of a lane with a trap", branch.cell(true, 2, 8), 0);
    }

    private static void fuel() {
        LaneDesk none = Check.typed("a=1;");
        CHECK.dueState("no kernel goes before wrong fuel", () -> none.alone(0));
        LaneDesk desk = Check.compiled("a=1;");
        desk.alone(8);
        CHECK.dueArgument("fuel 0", () -> desk.alone(0));
        CHECK.dueArgument("fuel -1", () -> desk.alone(-1));
        CHECK.dueArgument("fuel 4001", () -> desk.alone(4001));
        CHECK.due("the results stay when the call is refused", desk.cell(true, 0, 8), 1);
        LaneDesk endless = Check.compiled("*1{}");
        CHECK.due("a loop without statements", endless.alone(4000), 0);
        LaneDesk meeting = Check.compiled("*1{Xab0;}");
        CHECK.due("a loop without an end but X", meeting.alone(4000), 0);
        LaneDesk all = Check.compiled("*a<249{a=a+1;}b=1;");
        CHECK.due("8 * (249 * 2 + 2) is 4000", all.alone(4000), 1);
        CHECK.due("and 3999 does not do", all.alone(3999), 0);
    }

    private static void results() {
        LaneDesk desk = Check.compiled("a=a+1;L[0]=L[0]+1;Oa;?n{OI[99];}");
        for (int k = 0; k < 2; k++) {
            CHECK.due("alone from its beginning", desk.alone(4000), 1);
            CHECK.due("a", desk.cell(true, 0, 8), 1);
            CHECK.due("cell 0", desk.cell(true, 0, 0), 1);
            CHECK.due("numbers", desk.lane(true, 0, 0), 1);
        }
        CHECK.dueState("the run in step is not started", () -> desk.lane(false, 0, 0));
        CHECK.due("alone with too little", desk.alone(5), 0);
        CHECK.dueState("lane has no results", () -> desk.lane(true, 0, 0));
        CHECK.dueState("out has no results", () -> desk.out(true, 0, 0));
        CHECK.dueState("cell has no results", () -> desk.cell(true, 0, 0));
        desk.start();
        desk.run(1);
        CHECK.due("alone while the other is under way", desk.alone(4000), 1);
        CHECK.due("it leaves the run in step alone", desk.spent(0), 1);
        CHECK.due("and its cells", desk.cell(false, 0, 0), 0);
    }
}
