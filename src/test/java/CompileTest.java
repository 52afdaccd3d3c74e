/** Promises 4 and 5. */
public final class CompileTest {
    private static final Check CHECK = new Check();

    public static void main(String[] args) {
        rightTexts();
        wrongStatements();
        wrongExpressions();
        tooDeep();
        parted();
        kernelBefore();
        newKernel();
        CHECK.end();
    }

    private static void dueCompile(String text, int answer, int place) {
        LaneDesk desk = Check.typed(text);
        CHECK.due("place before compile of " + text, desk.place(), -1);
        CHECK.due("compile of " + text, desk.compile(), answer);
        CHECK.due("place of " + text, desk.place(), place);
        CHECK.due("compile of it again: " + text, desk.compile(), answer);
    }

    private static void right(String text) {
        dueCompile(text, 0, -1);
    }

    private static void syntax(String text, int place) {
        dueCompile(text, 1, place);
    }

    private static void rightTexts() {
        right("");
        right("a=1;");
        right("h=007;");
        right("a=a=b=3;");
        right("a=1+2-3*4<5=6&7;");
        right("On;");
        right("O(n);");
        right("L[n]=L[I[2]];");
        right("Xaha+1;");
        right("R;R;");
        right("?n{}");
        right("?n{}{}");
        right("?n{R;}{O1;}?1{}");
        right("*a*b{}");
        right("*n{}*n{}");
        right("?1{?1{?1{?1{R;}{R;}}}}");
        right("*1{}?1{*1{?1{*1{}}}}");
        right("a=((((1))));");
        right("a=(((I[0])))+((((n))));");
        right("L[(((1)))]=((((1))));");
        right("?((((1)))){}");
    }

    private static void wrongStatements() {
        syntax("}", 0);
        syntax("{", 0);
        syntax(";", 0);
        syntax("i=1;", 0);
        syntax("n=1;", 0);
        syntax("I[0]=1;", 0);
        syntax("A=1;", 0);
        syntax("`=1;", 0);
        syntax("1;", 0);
        syntax("a", 1);
        syntax("a;", 1);
        syntax("a=", 2);
        syntax("a=;", 2);
        syntax("a=1", 3);
        syntax("a=1}", 3);
        syntax("a=1;;", 4);
        syntax("a=1;}", 4);
        syntax("O", 1);
        syntax("O;", 1);
        syntax("O1", 2);
        syntax("L", 1);
        syntax("L(0)=1;", 1);
        syntax("L[0=1;", 5);
        syntax("L[0;", 3);
        syntax("L[0)", 3);
        syntax("L[0]", 4);
        syntax("L[0];", 4);
        syntax("L[0]=;", 5);
        syntax("L[]=1;", 2);
        syntax("X", 1);
        syntax("Xn", 1);
        syntax("Xa", 2);
        syntax("Xan1;", 2);
        syntax("Xa1;", 2);
        syntax("Xab", 3);
        syntax("Xab;", 3);
        syntax("Xab1", 4);
        syntax("Xab1}", 4);
        syntax("R", 1);
        syntax("R}", 1);
        syntax("?", 1);
        syntax("?{", 1);
        syntax("?1", 2);
        syntax("?1;", 2);
        syntax("?1{", 3);
        syntax("?1{R;", 5);
        syntax("?1{R}", 4);
        syntax("?1{}{", 5);
        syntax("?1{}{}{", 6);
        syntax("?1{}}", 4);
        syntax("*", 1);
        syntax("*1{}{", 4);
        syntax("*1{{", 3);
        syntax("*I[0]{a=1}", 9);
    }

    private static void wrongExpressions() {
        syntax("b=1234;", 5);
        syntax("b=0001;", 5);
        syntax("b=12a;", 4);
        syntax("b=a1;", 3);
        syntax("b=ab;", 3);
        syntax("b=i;", 2);
        syntax("b=1+;", 4);
        syntax("b=1+-1;", 4);
        syntax("b=-1;", 2);
        syntax("b=1/2;", 3);
        syntax("b=1>2;", 3);
        syntax("b=1|2;", 3);
        syntax("b=();", 3);
        syntax("b=(1;", 4);
        syntax("b=(1];", 4);
        syntax("b=1);", 3);
        syntax("b=(1", 4);
        syntax("b=I;", 3);
        syntax("b=I(0);", 3);
        syntax("b=I[0);", 5);
        syntax("b=I[];", 4);
        syntax("b=L;", 3);
        syntax("b=L[7;", 5);
        syntax("b=[1];", 2);
        syntax("b=O;", 2);
        syntax("b=R;", 2);
        syntax("b=~;", 2);
        syntax("b=1!;", 3);
    }

    private static void tooDeep() {
        syntax("a=((((1+(2))))", 8);
        syntax("a=(((((1)))));", 6);
        syntax("a=((((I[0]))));", 7);
        syntax("a=((((L[0]))));", 7);
        syntax("a=I[I[I[I[I[0]]]]];", 11);
        syntax("a=((((I", 7);
        syntax("L[((((1))))]=1;", 5);
        syntax("L[I[I[I[I[1]]]]]=1;", 9);
        syntax("L[1]=(((((1)))));", 9);
        syntax("?1{?1{?1{?1{?1{}}}}}", 14);
        syntax("*1{*1{*1{*1{*1{}}}}}", 14);
        syntax("?1{}{?1{}{?1{}{?1{}{?1{}}}}}", 22);
        syntax("?1{?1{?1{?1{*1", 14);
        syntax("?1{?1{?1{?1{*)", 13);
    }

    private static void parted() {
        dueCompile("?n{Xabn;}", 2, 3);
        dueCompile("?n{}{Xabn;}", 2, 5);
        dueCompile("*n{Xabn;}", 2, 3);
        dueCompile("?1{Xabn;}", 0, -1);
        dueCompile("*1{?1{Xabn;}}", 0, -1);
        dueCompile("?L[0]{Xab0;}", 2, 6);
        dueCompile("?I[n]{Xab0;}", 2, 6);
        dueCompile("?I[0]{Xab0;}", 0, -1);
        dueCompile("?n{?1{Xab0;}}", 2, 6);
        dueCompile("?n{?1{}}?1{Xab0;}", 0, -1);
        dueCompile("?n{}Xab0;", 0, -1);
        dueCompile("?n{?1{}{}R;}{}Xab0;?n{Xcd0;}", 2, 22);
        dueCompile("?a{Xab0;}", 2, 3);
        dueCompile("?b{Xab0;}", 0, -1);
        dueCompile("?c{Xab0;}?a{c=1;}", 2, 3);
        dueCompile("*a{Xbc0;}?c{Xde0;}c=d;?d{Xeb0;}", 2, 12);
        dueCompile("a=1;*a<3{?I[a]{Xabn;}a=a+1;}", 2, 15);
        dueCompile("?n{Xabn;}}", 1, 9);
        dueCompile("?n{Xabn;Xabn;}?n{Xabn;}", 2, 3);
    }

    private static void kernelBefore() {
        LaneDesk desk = Check.compiled("a=1;b=n;Oa;Ob;");
        desk.start();
        desk.run(3);
        desk.alone(4000);
        Check.type(desk, "?n{Xcd0;}");
        CHECK.due("compile with a parted X behind", desk.compile(), 2);
        CHECK.due("place", desk.place(), 17);
        CHECK.due("the kernel before stays: a", desk.varies(0), false);
        CHECK.due("the kernel before stays: b", desk.varies(1), true);
        CHECK.due("the kernel before stays: c", desk.varies(2), false);
        CHECK.due("its run in step stays", desk.spent(0), 3);
        CHECK.due("its results alone stay", desk.out(true, 5, 1), 5);
        Check.type(desk, "!");
        CHECK.due("compile with a wrong end", desk.compile(), 1);
        CHECK.due("place", desk.place(), 23);
        CHECK.due("its run in step is at the last statement", desk.mask(), 255);
        CHECK.due("and goes on", desk.run(1), 1);
        CHECK.due("with its own statements", desk.out(false, 5, 1), 5);
        CHECK.due("its results alone still stay", desk.lane(true, 5, 0), 2);
        desk.start();
        CHECK.due("it can be started anew", desk.run(500), 1);
        CHECK.due("all four statements", desk.spent(0), 4);
    }

    private static void newKernel() {
        LaneDesk desk = Check.compiled("O1;*1{}");
        desk.start();
        desk.run(2);
        desk.alone(3);
        CHECK.dueState("input while it runs", () -> desk.input(0, 1));
        desk.clear();
        Check.type(desk, "O2;");
        CHECK.due("compile", desk.compile(), 0);
        CHECK.due("place", desk.place(), -1);
        CHECK.due("nothing is started: mask", desk.mask(), 0);
        CHECK.dueState("nothing is started: run", () -> desk.run(1));
        CHECK.dueState("nothing is started: spent", () -> desk.spent(0));
        CHECK.dueState("nothing is started: lane", () -> desk.lane(false, 0, 0));
        desk.input(0, 1);
        desk.start();
        CHECK.due("the new kernel runs", desk.run(1), 1);
        CHECK.due("and puts out 2", desk.out(false, 0, 0), 2);
        CHECK.due("alone", desk.alone(8), 1);
        CHECK.due("compile of the same text", desk.compile(), 0);
        CHECK.dueState("no results of a run alone", () -> desk.lane(true, 0, 0));
        CHECK.dueState("no run in step", () -> desk.out(false, 0, 0));
    }
}
