import java.util.ArrayList;
import java.util.List;

/**
 * "0 (it is the kernel now ..)" (promise 4): a kernel has nothing of the ones that were compiled before it, right
 * or wrong, longer or shorter; a desk that had others does with it what a new one does.
 */
public final class NextKernelTest {
    private static final Check CHECK = new Check();
    private static final String[] KERNELS = {
        "", "c=c+1;", "c=c+1;d=1;e=1;", "a=n;b=n;c=n;d=n;e=n;", "Xab0;Xcd0;Xefn;", "R;R;R;R;R;R;R;R;R;R;",
        "a=1;*b<1{b=1;}", "*a<2{a=a+1;}", "?n{a=1;}{b=1;}", "?1{*c<2{?n<c{}{}c=c+1;}}O1;", "L[n]=n+1;OL[n];L[1]=2;",
        "?n<6{?n<4{?n<2{?n{O1;}{O2;}}{O3;}}{O4;}}{O5;}O6;", "a=1+(2+(3+(4+(5+n))));", "OI[n+12];On;",
        "*a<n{a=a+1;?a=3{R;}}Xban+1;Ob;", "O1;O2;O3;O4;O5;O6;O7;O8;O9;a=n;", "?0{OI[16];L[16]=1;}{On;}"};
    private static final String[] WRONG = {
        "!", "*n{a=n;Xab0;}", "?1{?1{?1{?1{R;R;R;", "a=n;b=n;c=n;d=n;e=n;f=n;g=n;h=", "L[1+1+1+1]=1+1+1+1;X"};

    public static void main(String[] args) {
        for (String before : KERNELS) {
            for (String text : KERNELS) {
                behindRightOnes(before, text);
            }
        }
        for (String before : WRONG) {
            for (String text : KERNELS) {
                behindWrongOnes(before, text);
            }
        }
        CHECK.end();
    }

    private static void compile(LaneDesk desk, String text, boolean right) {
        desk.clear();
        Check.type(desk, text);
        CHECK.due("compile of " + text, desk.compile() == 0, right);
    }

    /** One, two or three kernels before it: what is held inside may be used again in turns. */
    private static void behindRightOnes(String before, String text) {
        for (int times = 1; times <= 3; times++) {
            LaneDesk desk = new LaneDesk();
            for (int k = 0; k < times; k++) {
                compile(desk, before, true);
                desk.start();
                desk.run(3);
            }
            desk.alone(4000);
            compile(desk, text, true);
            dueAsNew(desk, text, times + " of " + before);
        }
    }

    private static void behindWrongOnes(String before, String text) {
        LaneDesk desk = Check.compiled("a=n;*b<2{b=b+1;}");
        for (int k = 0; k < 2; k++) {
            compile(desk, before, false);
            compile(desk, text, true);
            dueAsNew(desk, text, "the wrong " + before);
        }
    }

    private static void dueAsNew(LaneDesk desk, String text, String behind) {
        List<String> want = answers(Check.compiled(text));
        List<String> got = answers(desk);
        for (int k = 0; k < Math.max(want.size(), got.size()); k++) {
            String due = k < want.size() ? want.get(k) : "nothing";
            String answer = k < got.size() ? got.get(k) : "nothing";
            if (!due.equals(answer)) {
                CHECK.report(text + " behind " + behind + ": " + answer + ", due is " + due);
                return;
            }
        }
    }

    private static List<String> answers(LaneDesk desk) {
        List<String> answers = new ArrayList<>();
        for (int v = 0; v < 8; v++) {
            answers.add("varies(" + v + ") is " + desk.varies(v));
        }
        desk.start();
        int over = 0;
        for (int k = 0; k < 60 && over == 0; k++) {
            answers.add("mask " + k + " is " + desk.mask());
            over = desk.run(1);
            answers.add("run " + k + " is " + over);
        }
        int busy = Math.max(1, desk.spent(1));
        answers.add("issued is " + desk.spent(0) + ", busy " + desk.spent(1));
        answers.add("alone with too little is " + (busy > 1 ? desk.alone(busy - 1) : 0));
        answers.add("alone is " + desk.alone(busy));
        for (boolean alone : new boolean[] {false, true}) {
            for (int lane : new int[] {0, 3, 7}) {
                String of = " of " + lane + (alone ? " alone is " : " in step is ");
                answers.add("numbers" + of + desk.lane(alone, lane, 0));
                answers.add("trap" + of + desk.lane(alone, lane, 1));
                for (int k = 0; k < 14; k++) {
                    answers.add("cell " + k + of + desk.cell(alone, lane, k));
                }
            }
        }
        return answers;
    }
}
