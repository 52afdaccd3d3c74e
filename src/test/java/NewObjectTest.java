/** Promise 1. */
public final class NewObjectTest {
    public static void main(String[] args) {
        Check check = new Check();
        LaneDesk desk = new LaneDesk();
        check.due("place of a new object", desk.place(), -1);
        check.due("mask of a new object", desk.mask(), 0);
        check.dueState("varies without a kernel", () -> desk.varies(0));
        check.dueState("start without a kernel", desk::start);
        check.dueState("run without a kernel", () -> desk.run(1));
        check.dueState("spent without a kernel", () -> desk.spent(0));
        check.dueState("alone without a kernel", () -> desk.alone(1));
        check.dueState("lane without a run", () -> desk.lane(false, 0, 0));
        check.dueState("lane without results", () -> desk.lane(true, 0, 0));
        check.dueState("out without a run", () -> desk.out(false, 0, 0));
        check.dueState("out without results", () -> desk.out(true, 0, 0));
        check.dueState("cell without a run", () -> desk.cell(false, 0, 0));
        check.dueState("cell without results", () -> desk.cell(true, 0, 0));
        check.due("the first character makes a text of 1", desk.type('R', 1), 1);

        LaneDesk inputs = Check.started("a=I[0]+I[15];*b<16{c=c+(I[b]=0);b=b+1;}");
        check.due("all eight lanes take part", inputs.mask(), 255);
        check.due("run", inputs.run(500), 1);
        check.due("all inputs are 0", inputs.cell(false, 7, 10), 16);
        check.end();
    }
}
