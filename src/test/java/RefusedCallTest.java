import java.util.ArrayList;
import java.util.List;
import java.util.function.Consumer;
import java.util.function.LongSupplier;

/**
 * What a refused call leaves as it was, which is everything: of two desks that are brought to the same state,
 * one is then called in all the ways that are refused there; from there on both must answer alike.
 */
public final class RefusedCallTest {
    private static final Check CHECK = new Check();
    private static final String KERNEL = "a=n+I[3];L[n]=a;Oa;?n<3{Ob;}{b=I[0];}Xcan+1;Oc;*d<3{d=d+1;Od;}OI[n+12];";
    private static final int[] WRONG = {Integer.MIN_VALUE, -1, 4001, Integer.MAX_VALUE};

    public static void main(String[] args) {
        due("a new desk", desk -> { }, false, false);
        due("a text", desk -> Check.type(desk, KERNEL), false, false);
        due("a full text", desk -> Check.type(desk, "R;".repeat(80)), false, false);
        due("a wrong text", RefusedCallTest::wrong, false, false);
        due("a kernel", RefusedCallTest::compiled, true, false);
        due("results alone", desk -> { compiled(desk); desk.alone(4000); }, true, false);
        due("no results alone", desk -> { compiled(desk); desk.alone(50); }, true, false);
        for (int issued = 0; issued < 15; issued++) {
            int fuel = issued;
            due("under way behind " + issued, desk -> underWay(desk, fuel), true, true);
        }
        due("a wrong text under way", desk -> { underWay(desk, 5); wrong(desk); }, true, true);
        due("over", desk -> { underWay(desk, 500); desk.alone(4000); }, true, false);
        CHECK.end();
    }

    private static void wrong(LaneDesk desk) {
        desk.clear();
        Check.type(desk, "O1;*1{");
        desk.compile();
    }

    private static void compiled(LaneDesk desk) {
        Check.type(desk, KERNEL);
        desk.input(3, 7);
        desk.input(0, 9);
        desk.lanes(7);
        desk.compile();
    }

    private static void underWay(LaneDesk desk, int fuel) {
        compiled(desk);
        desk.alone(4000);
        desk.start();
        if (fuel > 0) {
            desk.run(fuel);
        }
    }

    private static void due(String state, Consumer<LaneDesk> bring, boolean kernel, boolean underWay) {
        LaneDesk left = new LaneDesk();
        LaneDesk called = new LaneDesk();
        bring.accept(left);
        bring.accept(called);
        callWrongArguments(state, called);
        if (!kernel) {
            callWithoutKernel(state, called);
        }
        if (underWay) {
            callUnderWay(state, called);
        }
        if (state.equals("a full text")) {
            CHECK.dueState("one more to a full text", () -> called.type('R', 1));
        }
        List<String> want = goOn(left);
        List<String> got = goOn(called);
        for (int k = 0; k < want.size(); k++) {
            if (!want.get(k).equals(got.get(k))) {
                CHECK.report(state + ": " + got.get(k) + " behind refused calls, due is " + want.get(k));
            }
        }
    }

    private static void callWrongArguments(String state, LaneDesk desk) {
        long word = Check.word("O9;O9;O9");
        refused(state + ": type of blanks", () -> desk.type(Check.word("O9; O9;"), 7));
        refused(state + ": type of 9", () -> desk.type(word, 9));
        for (int k : WRONG) {
            refused(state + ": type", () -> desk.type(word, k));
            refused(state + ": varies", () -> desk.varies(k) ? 1 : 0);
            refused(state + ": input", () -> { desk.input(k, 55); return 0; });
            refused(state + ": lanes", () -> { desk.lanes(k); return 0; });
            refused(state + ": run", () -> desk.run(k));
            refused(state + ": spent", () -> desk.spent(k));
            refused(state + ": alone", () -> desk.alone(k));
            refused(state + ": lane", () -> desk.lane(false, k, 0));
            refused(state + ": lane", () -> desk.lane(true, 0, k));
            refused(state + ": out", () -> desk.out(false, 0, k));
            refused(state + ": out", () -> desk.out(true, 0, k));
            refused(state + ": cell", () -> desk.cell(false, 0, k));
            refused(state + ": cell", () -> desk.cell(true, k, 0));
        }
        refused(state + ": input(16)", () -> { desk.input(16, 55); return 0; });
        refused(state + ": lanes(0)", () -> { desk.lanes(0); return 0; });
        refused(state + ": lanes(9)", () -> { desk.lanes(9); return 0; });
        refused(state + ": run(0)", () -> desk.run(0));
        refused(state + ": run(501)", () -> desk.run(501));
        refused(state + ": alone(0)", () -> desk.alone(0));
    }

    private static void callWithoutKernel(String state, LaneDesk desk) {
        refused(state + ": varies(0)", () -> desk.varies(0) ? 1 : 0);
        refused(state + ": start()", () -> { desk.start(); return 0; });
        refused(state + ": run(1)", () -> desk.run(1));
        refused(state + ": alone(1)", () -> desk.alone(1));
        refused(state + ": spent(0)", () -> desk.spent(0));
    }

    private static void callUnderWay(String state, LaneDesk desk) {
        for (int i = 0; i < 16; i++) {
            int which = i;
            refused(state + ": input(" + i + ")", () -> { desk.input(which, 55); return 0; });
        }
        for (int n = 1; n <= 8; n++) {
            int count = n;
            refused(state + ": lanes(" + n + ")", () -> { desk.lanes(count); return 0; });
        }
    }

    private static void refused(String call, LongSupplier made) {
        String answer = answer(made);
        if (!answer.startsWith("throws")) {
            CHECK.report(call + " answered " + answer + ", but is to be refused");
        }
    }

    private static String answer(LongSupplier call) {
        try {
            return Long.toString(call.getAsLong());
        } catch (IllegalArgumentException | IllegalStateException | IndexOutOfBoundsException e) {
            return "throws " + e.getClass().getSimpleName();
        }
    }

    /** All that can be asked, and what the desk still does: within what is left of its 512 calls. */
    private static List<String> goOn(LaneDesk desk) {
        List<String> answers = new ArrayList<>();
        answers.add("place " + desk.place());
        look(desk, answers);
        answers.add("run(1) " + answer(() -> desk.run(1)));
        answers.add("mask " + desk.mask());
        answers.add("run(500) " + answer(() -> desk.run(500)));
        answers.add("alone " + answer(() -> desk.alone(4000)));
        look(desk, answers);
        answers.add("start " + answer(() -> { desk.start(); return 0; }));
        answers.add("mask anew " + desk.mask());
        answers.add("type " + answer(() -> desk.type(Check.word("O1;"), 3)));
        answers.add("compile " + desk.compile());
        answers.add("place " + desk.place());
        answers.add("start " + answer(() -> { desk.start(); return 0; }));
        answers.add("run(500) " + answer(() -> desk.run(500)));
        look(desk, answers);
        return answers;
    }

    private static void look(LaneDesk desk, List<String> answers) {
        answers.add("mask " + desk.mask());
        answers.add("varies " + answer(() -> (desk.varies(0) ? 1 : 0) + (desk.varies(3) ? 2 : 0)));
        answers.add("issued " + answer(() -> desk.spent(0)));
        answers.add("busy " + answer(() -> desk.spent(1)));
        for (boolean alone : new boolean[] {false, true}) {
            for (int lane : new int[] {1, 6}) {
                String of = " of " + lane + (alone ? " alone " : " in step ");
                for (int k = 0; k < 3; k++) {
                    int which = k;
                    answers.add("lane " + k + of + answer(() -> desk.lane(alone, lane, which)));
                    answers.add("out " + k + of + answer(() -> desk.out(alone, lane, which)));
                }
                for (int k = 0; k < 12; k++) {
                    int which = k;
                    answers.add("cell " + k + of + answer(() -> desk.cell(alone, lane, which)));
                }
            }
        }
    }
}
